/-! Questions for one word. -/
def qcw (t : Int → Int) : Nat → Int
  | 0 => 1
  | i + 1 => qcw t i + if qpt (t i) then 1 else 0
theorem qcw_e' {u t : Int → Int} : ∀ i : Nat, (∀ j : Int, j < i → u j = t j) → qcw u i = qcw t i
  | 0, _ => rfl
  | i + 1, h => by rw [qcw, qcw, qcw_e' i fun j hj => h j (by omega), h i (by omega)]
theorem qcw_e {u t : Int → Int} {n : Int} (h : ∀ i, i < n → u i = t i) (hn : 0 ≤ n) : qcw u n.toNat = qcw t n.toNat := qcw_e' n.toNat fun j hj => h j (by omega)
theorem qcw_r (t : Int → Int) : ∀ i : Nat, 1 ≤ qcw t i ∧ qcw t i ≤ i + 1 := by
  intro i
  induction i with
  | zero => exact ⟨Int.le_refl 1, by show (1 : Int) ≤ 0 + 1; decide⟩
  | succ i ih =>
    rw [qcw]
    split <;> omega
theorem qkd_6 (c : Int) : (qkd c = 6) = qpt c := by
  unfold qkd
  by_cases h : qpt c
  · rw [if_neg (by omega), if_neg (by omega), if_neg (by omega), if_pos h]
    exact propext ⟨fun _ => h, fun _ => rfl⟩
  · refine propext ⟨fun q => ?_, fun q => absurd q h⟩
    repeat' split at q
    all_goals first | omega | exact absurd q (by decide) | assumption
theorem s_countWords (d : Nat) (S : zS) (n : Int) (h : 3 ≤ d) (hK : qK S) (p0 : zm S 4 0 = 5) (p1 : zm S 4 1 = n) (hn : 0 ≤ n ∧ n ≤ 60) : zD d 96 [vr 4] S = some (.inl (some (vi (qcw (zm S 5) n.toNat))), S) := by
  obtain ⟨e, rfl, h1⟩ := qd h
  have lp : ∀ (f i : Nat), (i : Int) + f = n → zF_96 e 4 [vr 4, vi (qcw (zm S 5) i), vi i] [] S = some (.inl (some (vi (qcw (zm S 5) n.toNat))), S) := by
    intro f
    induction f with
    | zero =>
      intro i h2
      rw [b96_4, show n.toNat = i by omega]
      simp (config := { maxSteps := 2000000 }) (disch := first | omega | (simp only [K_4 hK, qb_in, qkW, qmW, qnW, true_and, and_true, or_self, true_or, or_true, and_self]; done) | (simp only [K_4 hK, qb_in, qkW, qmW, qnW, true_and, and_true, or_self, true_or, or_true, and_self]; omega)) only [b96_0, b96_12, b96_21, b96_26, b96_29, b96_35, qcall_l, qcall_r, qretn_l, qJ_s, qJ_n, qV0, qEx, ↓qif0, ↓zchk_pos, ↓reduceIte, qput, qWW, qmW, qkW, qnW, K_4 hK, p1, if_neg (show ¬ (i : Int) < n by omega)]
    | succ f ih =>
      intro i h2
      have hr := qcw_r (zm S 5) i
      have ko := s_kindOf e (zm S 5 i) S (by omega)
      have ih := ih (i + 1) (by omega)
      rw [qcw] at ih
      rw [b96_4]
      by_cases c : qpt (zm S 5 i)
      · rw [if_pos c] at ih
        simp (config := { maxSteps := 2000000 }) (disch := first | omega | (simp only [K_4 hK, K_5 hK, p0, qb_in, qkW, qmW, qnW, true_and, and_true, or_self, true_or, or_true, and_self]; done) | (simp only [K_4 hK, K_5 hK, p0, qb_in, qkW, qmW, qnW, true_and, and_true, or_self, true_or, or_true, and_self]; omega)) only [b96_0, b96_12, b96_21, b96_26, b96_29, b96_35, qcall_l, qcall_r, qretn_l, qJ_s, qJ_n, qV0, qEx, ↓qif0, ↓zchk_pos, ↓reduceIte, qput, qWW, qmW, qkW, qnW, K_4 hK, K_5 hK, p0, p1, if_pos (show (i : Int) < n by omega), ko, qkd_6, if_pos c, q32]
        exact ih
      · rw [if_neg c, Int.add_zero] at ih
        simp (config := { maxSteps := 2000000 }) (disch := first | omega | (simp only [K_4 hK, K_5 hK, p0, qb_in, qkW, qmW, qnW, true_and, and_true, or_self, true_or, or_true, and_self]; done) | (simp only [K_4 hK, K_5 hK, p0, qb_in, qkW, qmW, qnW, true_and, and_true, or_self, true_or, or_true, and_self]; omega)) only [b96_0, b96_12, b96_21, b96_26, b96_29, b96_35, qcall_l, qcall_r, qretn_l, qJ_s, qJ_n, qV0, qEx, ↓qif0, ↓zchk_pos, ↓reduceIte, qput, qWW, qmW, qkW, qnW, K_4 hK, K_5 hK, p0, p1, if_pos (show (i : Int) < n by omega), ko, qkd_6, if_neg c, q32]
        exact ih
  simp (config := { maxSteps := 2000000 }) (disch := first | omega | (simp only [qb_in, qkW, qmW, qnW, true_and, and_true, or_self, true_or, or_true, and_self]; done) | (simp only [qb_in, qkW, qmW, qnW, true_and, and_true, or_self, true_or, or_true, and_self]; omega)) only [zD_96, b96_0, b96_12, b96_21, b96_26, b96_29, b96_35, qcall_l, qcall_r, qretn_l, qJ_s, qJ_n, qV0, qEx, ↓qif0, ↓zchk_pos, ↓reduceIte, qput, qWW, qmW, qkW, qnW]
  exact lp n.toNat 0 (by omega)
theorem qRT_r {S : zS} (h : qRT S) : qTr (zm S) := ⟨h.2.1.1, h.2.1.2, h.2.2.2⟩
theorem r_faultOf' (d : Nat) (S : zS) (h : 5 ≤ d) (hK : qK S) (hP : qP (zm S)) (hT : qRT S) : zD d 202 [vr 37] S = some (.inl (some (vi (qtf (zm S 38) (zm S 37 2)))), S) := by
  rw [← qff_tf _ _ hT.2.1.1]
  exact r_faultOf d S h hK hP (qRT_r hT)
theorem r_wordsOfTape (d : Nat) (S : zS) (h : 6 ≤ d) (hK : qK S) (hP : qP (zm S)) (hT : qRT S) : zD d 204 [vr 37] S = some (.inl (some (vi (if qtf (zm S 38) (zm S 37 2) = -1 then qcw (zm S 38) (zm S 37 2).toNat else 0))), S) := by
  obtain ⟨e, rfl, h1⟩ := qd h
  have hT2 := hT.2.1
  have fo := r_faultOf' e S (by omega) hK hP hT
  have lp : ∀ (f i : Nat), (i : Int) + f = zm S 37 2 → zF_204 e 4 [vr 37, vi (qcw (zm S 38) i), vi i] [] S = some (.inl (some (vi (if qtf (zm S 38) (zm S 37 2) = -1 then qcw (zm S 38) (zm S 37 2).toNat else 0))), S) := by
    intro f
    induction f with
    | zero =>
      intro i h2
      rw [b204_4, show (zm S 37 2).toNat = i by omega]
      by_cases c : qtf (zm S 38) (zm S 37 2) = -1
      · rw [if_pos c]
        simp (config := { maxSteps := 2000000 }) (disch := first | omega | (simp only [K_37 hK, qb_in, qkW, qmW, qnW, true_and, and_true, or_self, true_or, or_true, and_self]; done) | (simp only [K_37 hK, qb_in, qkW, qmW, qnW, true_and, and_true, or_self, true_or, or_true, and_self]; omega)) only [b204_0, b204_12, b204_18, b204_21, b204_24, b204_28, b204_29, b204_37, b204_41, b204_45, b204_49, b204_50, qcall_l, qcall_r, qretn_l, qJ_s, qJ_n, qV0, qEx, ↓qif0, ↓zchk_pos, ↓reduceIte, qput, qWW, qmW, qkW, qnW, K_37 hK, if_neg (show ¬ (i : Int) < zm S 37 2 by omega), fo, if_pos c]
      · rw [if_neg c]
        simp (config := { maxSteps := 2000000 }) (disch := first | omega | (simp only [K_37 hK, qb_in, qkW, qmW, qnW, true_and, and_true, or_self, true_or, or_true, and_self]; done) | (simp only [K_37 hK, qb_in, qkW, qmW, qnW, true_and, and_true, or_self, true_or, or_true, and_self]; omega)) only [b204_0, b204_12, b204_18, b204_21, b204_24, b204_28, b204_29, b204_37, b204_41, b204_45, b204_49, b204_50, qcall_l, qcall_r, qretn_l, qJ_s, qJ_n, qV0, qEx, ↓qif0, ↓zchk_pos, ↓reduceIte, qput, qWW, qmW, qkW, qnW, K_37 hK, if_neg (show ¬ (i : Int) < zm S 37 2 by omega), fo, if_neg c]
    | succ f ih =>
      intro i h2
      have hr := qcw_r (zm S 38) i
      have sg := r_signAt e S i (by omega) (by omega) hK hP (qRT_r hT)
      rw [show qms (zm S) i = zm S 38 i from qsg_lt (by omega)] at sg
      have ip := r_isPart e (zm S 38 i) S (by omega)
      have ih := ih (i + 1) (by omega)
      rw [qcw] at ih
      rw [b204_4]
      by_cases c : qpt (zm S 38 i)
      · rw [if_pos c] at ih
        simp (config := { maxSteps := 2000000 }) (disch := first | omega | (simp only [K_37 hK, qb_in, qkW, qmW, qnW, true_and, and_true, or_self, true_or, or_true, and_self]; done) | (simp only [K_37 hK, qb_in, qkW, qmW, qnW, true_and, and_true, or_self, true_or, or_true, and_self]; omega)) only [b204_0, b204_12, b204_18, b204_21, b204_24, b204_28, b204_29, b204_37, b204_41, b204_45, b204_49, b204_50, qcall_l, qcall_r, qretn_l, qJ_s, qJ_n, qV0, qEx, ↓qif0, ↓zchk_pos, ↓reduceIte, qput, qWW, qmW, qkW, qnW, K_37 hK, if_pos (show (i : Int) < zm S 37 2 by omega), sg, ip, if_pos c, q32]
        exact ih
      · rw [if_neg c, Int.add_zero] at ih
        simp (config := { maxSteps := 2000000 }) (disch := first | omega | (simp only [K_37 hK, qb_in, qkW, qmW, qnW, true_and, and_true, or_self, true_or, or_true, and_self]; done) | (simp only [K_37 hK, qb_in, qkW, qmW, qnW, true_and, and_true, or_self, true_or, or_true, and_self]; omega)) only [b204_0, b204_12, b204_18, b204_21, b204_24, b204_28, b204_29, b204_37, b204_41, b204_45, b204_49, b204_50, qcall_l, qcall_r, qretn_l, qJ_s, qJ_n, qV0, qEx, ↓qif0, ↓zchk_pos, ↓reduceIte, qput, qWW, qmW, qkW, qnW, K_37 hK, if_pos (show (i : Int) < zm S 37 2 by omega), sg, ip, if_neg c, Int.add_zero, q32]
        exact ih
  simp (config := { maxSteps := 2000000 }) (disch := first | omega | (simp only [qb_in, qkW, qmW, qnW, true_and, and_true, or_self, true_or, or_true, and_self]; done) | (simp only [qb_in, qkW, qmW, qnW, true_and, and_true, or_self, true_or, or_true, and_self]; omega)) only [zD_204, b204_0, b204_12, b204_18, b204_21, b204_24, b204_28, b204_29, b204_37, b204_41, b204_45, b204_49, b204_50, qcall_l, qcall_r, qretn_l, qJ_s, qJ_n, qV0, qEx, ↓qif0, ↓zchk_pos, ↓reduceIte, qput, qWW, qmW, qkW, qnW]
  exact lp (zm S 37 2).toNat 0 (by omega)
/-- the tape holds one word -/
def qOne (S : zS) : Prop := qtf (zm S 38) (zm S 37 2) = -1 ∧ qcw (zm S 38) (zm S 37 2).toNat = 1
theorem s_faultAsText' (d : Nat) (S : zS) (h : 3 ≤ d) (hK : qK S) (hP : qP (zm S)) (hT : qRT S) : zD d 94 [vr 4] S = some (.inl (some (vi (qtf (zm S 38) (zm S 37 2)))), S) := by
  have := s_faultAsText d S h hK hP (by rw [hT.1]; exact hT.2.1)
  rw [hT.1, qtf_e hT.2.2.1 hT.2.1.1] at this
  exact this
theorem s_spellOne_n (d : Nat) (S : zS) (h : 4 ≤ d) (hK : qK S) (hP : qP (zm S)) (hT : qRT S) (ho : ¬ qOne S) : zD d 159 [vr 3] S = some (.inr 1, zbump S) := by
  obtain ⟨e, rfl, h1⟩ := qd h
  have fa := s_faultAsText' e S (by omega) hK hP hT
  have cw := s_countWords e S (zm S 37 2) (by omega) hK (P_4_0 hP) hT.1 hT.2.1
  rw [qcw_e hT.2.2.1 hT.2.1.1] at cw
  by_cases c : qtf (zm S 38) (zm S 37 2) = -1
  · simp (config := { maxSteps := 2000000 }) (disch := first | omega | (simp only [K_3 hK, K_4 hK, P_3_0 hP, P_3_0 hP, qb_in, qkW, qmW, qnW, true_and, and_true, or_self, true_or, or_true, and_self]; done) | (simp only [K_3 hK, K_4 hK, P_3_0 hP, P_3_0 hP, qb_in, qkW, qmW, qnW, true_and, and_true, or_self, true_or, or_true, and_self]; omega)) only [zD_159, b159_0, b159_7, b159_11, b159_18, b159_22, b159_33, b159_45, qcall_l, qcall_r, qretn_l, qJ_s, qJ_n, qV0, qEx, ↓qif0, ↓zchk_pos, ↓reduceIte, qput, qWW, qmW, qkW, qnW, K_3 hK, K_4 hK, P_3_0 hP, P_3_0 hP, fa, if_pos c, cw, if_neg (show ¬ qcw (zm S 38) (zm S 37 2).toNat = 1 from fun q => ho ⟨c, q⟩)]
  · simp (config := { maxSteps := 2000000 }) (disch := first | omega | (simp only [K_3 hK, K_4 hK, P_3_0 hP, P_3_0 hP, qb_in, qkW, qmW, qnW, true_and, and_true, or_self, true_or, or_true, and_self]; done) | (simp only [K_3 hK, K_4 hK, P_3_0 hP, P_3_0 hP, qb_in, qkW, qmW, qnW, true_and, and_true, or_self, true_or, or_true, and_self]; omega)) only [zD_159, b159_0, b159_7, b159_11, b159_18, b159_22, b159_33, b159_45, qcall_l, qcall_r, qretn_l, qJ_s, qJ_n, qV0, qEx, ↓qif0, ↓zchk_pos, ↓reduceIte, qput, qWW, qmW, qkW, qnW, K_3 hK, K_4 hK, P_3_0 hP, P_3_0 hP, fa, if_neg c]
theorem s_spellOne_y (d : Nat) (S : zS) (W : List Int) (dg st bg mk E : Int) (h : 5 ≤ d) (hK : qK S) (hP : qP (zm S)) (hT : qRT S) (ho : qOne S)
    (hs : ∀ (d : Nat) (S' : zS) (a b : Int), 4 ≤ d → qK S' → zm S' 4 0 = 5 → zm S' 4 1 = zm S 37 2 → (∀ i, i < zm S 37 2 → zm S' 5 i = zm S 38 i) → qSk S' a b → zm S' a 0 = b → ∃ m', zD d 97 [vr 4, vi 0, vr a] S' = some (.inl (some (vi E)), qW S' m') ∧ qSq m' a b W st dg bg (qmc mk) ∧ qfs a b (zm S') m') :
    ∃ m', zD d 159 [vr 3] S = some (.inl none, qW S m') ∧ qSq m' 18 19 W st dg bg (qmc mk) ∧ qfs 18 19 (zm S) m' := by
  obtain ⟨e, rfl, h1⟩ := qd h
  have fa := s_faultAsText' e S (by omega) hK hP hT
  have cw := s_countWords e S (zm S 37 2) (by omega) hK (P_4_0 hP) hT.1 hT.2.1
  rw [qcw_e hT.2.2.1 hT.2.1.1] at cw
  obtain ⟨m', r, p, f⟩ := hs e S 18 19 (by omega) hK (P_4_0 hP) hT.1 hT.2.2.1 ⟨K_18 hK, K_19 hK⟩ (P_18_0 hP)
  refine ⟨m', ?_, p, f⟩
  simp (config := { maxSteps := 2000000 }) (disch := first | omega | (simp only [K_3 hK, K_4 hK, P_3_0 hP, K_18 hK, P_3_14 hP, P_3_0 hP, P_3_14 hP, qb_in, qkW, qmW, qnW, true_and, and_true, or_self, true_or, or_true, and_self]; done) | (simp only [K_3 hK, K_4 hK, P_3_0 hP, K_18 hK, P_3_14 hP, P_3_0 hP, P_3_14 hP, qb_in, qkW, qmW, qnW, true_and, and_true, or_self, true_or, or_true, and_self]; omega)) only [zD_159, b159_0, b159_7, b159_11, b159_18, b159_22, b159_33, b159_45, qcall_l, qcall_r, qretn_l, qJ_s, qJ_n, qV0, qEx, ↓qif0, ↓zchk_pos, ↓reduceIte, qput, qWW, qmW, qkW, qnW, K_3 hK, K_4 hK, P_3_0 hP, K_18 hK, P_3_14 hP, P_3_0 hP, P_3_14 hP, fa, if_pos ho.1, cw, if_pos ho.2, r]
theorem s_codeOf_n (d : Nat) (S : zS) (c : Int) (h : 1 ≤ d) (hK : qK S) (hC : qRC S) (hc : ¬ (0 ≤ c ∧ c < zm S 37 4)) : zD d 152 [vr 3, vi c] S = some (.inr 2, zbump S) := by
  obtain ⟨e, rfl, -⟩ := qd h
  have c1 := hC.1
  by_cases h1 : c < 0
  · simp (config := { maxSteps := 2000000 }) (disch := first | omega | (simp only [K_3 hK, qb_in, qkW, qmW, qnW, true_and, and_true, or_self, true_or, or_true, and_self]; done) | (simp only [K_3 hK, qb_in, qkW, qmW, qnW, true_and, and_true, or_self, true_or, or_true, and_self]; omega)) only [zD_152, b152_0, b152_4, b152_12, b152_23, qcall_l, qcall_r, qretn_l, qJ_s, qJ_n, qV0, qEx, ↓qif0, ↓zchk_pos, ↓reduceIte, qput, qWW, qmW, qkW, qnW, K_3 hK, if_pos h1]
  · simp (config := { maxSteps := 2000000 }) (disch := first | omega | (simp only [K_3 hK, qb_in, qkW, qmW, qnW, true_and, and_true, or_self, true_or, or_true, and_self]; done) | (simp only [K_3 hK, qb_in, qkW, qmW, qnW, true_and, and_true, or_self, true_or, or_true, and_self]; omega)) only [zD_152, b152_0, b152_4, b152_12, b152_23, qcall_l, qcall_r, qretn_l, qJ_s, qJ_n, qV0, qEx, ↓qif0, ↓zchk_pos, ↓reduceIte, qput, qWW, qmW, qkW, qnW, K_3 hK, if_neg h1, c1, if_neg (show ¬ c < zm S 37 4 by omega)]
theorem s_codeOf_y (d : Nat) (S : zS) (c : Int) (h : 1 ≤ d) (hK : qK S) (hP : qP (zm S)) (hC : qRC S) (hc : 0 ≤ c ∧ c < zm S 37 4) : zD d 152 [vr 3, vi c] S = some (.inl (some (vr (zm S 6 c))), S) := by
  obtain ⟨e, rfl, -⟩ := qd h
  have c1 := hC.1
  have c2 := hC.2.1
  simp (config := { maxSteps := 2000000 }) (disch := first | omega | (simp only [K_3 hK, K_6 hK, P_3_1 hP, P_3_1 hP, qb_in, qkW, qmW, qnW, true_and, and_true, or_self, true_or, or_true, and_self]; done) | (simp only [K_3 hK, K_6 hK, P_3_1 hP, P_3_1 hP, qb_in, qkW, qmW, qnW, true_and, and_true, or_self, true_or, or_true, and_self]; omega)) only [zD_152, b152_0, b152_4, b152_12, b152_23, qcall_l, qcall_r, qretn_l, qJ_s, qJ_n, qV0, qEx, ↓qif0, ↓zchk_pos, ↓reduceIte, qput, qWW, qmW, qkW, qnW, K_3 hK, K_6 hK, P_3_1 hP, P_3_1 hP, if_neg (show ¬ c < 0 by omega), c1, if_pos hc.2]
theorem s_checkGrade_n (d : Nat) (S : zS) (g : Int) (h : 1 ≤ d) (hg : ¬ (0 ≤ g ∧ g ≤ 3)) : zD d 156 [vi g] S = some (.inr 0, zbump S) := by
  obtain ⟨e, rfl, -⟩ := qd h
  by_cases h1 : g < 0
  · simp (config := { maxSteps := 2000000 }) (disch := first | omega | (simp only [qb_in, qkW, qmW, qnW, true_and, and_true, or_self, true_or, or_true, and_self]; done) | (simp only [qb_in, qkW, qmW, qnW, true_and, and_true, or_self, true_or, or_true, and_self]; omega)) only [zD_156, b156_0, b156_4, b156_9, b156_20, qcall_l, qcall_r, qretn_l, qJ_s, qJ_n, qV0, qEx, ↓qif0, ↓zchk_pos, ↓reduceIte, qput, qWW, qmW, qkW, qnW, if_pos h1]
  · simp (config := { maxSteps := 2000000 }) (disch := first | omega | (simp only [qb_in, qkW, qmW, qnW, true_and, and_true, or_self, true_or, or_true, and_self]; done) | (simp only [qb_in, qkW, qmW, qnW, true_and, and_true, or_self, true_or, or_true, and_self]; omega)) only [zD_156, b156_0, b156_4, b156_9, b156_20, qcall_l, qcall_r, qretn_l, qJ_s, qJ_n, qV0, qEx, ↓qif0, ↓zchk_pos, ↓reduceIte, qput, qWW, qmW, qkW, qnW, if_neg h1, if_pos (show 3 < g by omega)]
theorem s_checkGrade_y (d : Nat) (S : zS) (g : Int) (h : 1 ≤ d) (hg : 0 ≤ g ∧ g ≤ 3) : zD d 156 [vi g] S = some (.inl none, S) := by
  obtain ⟨e, rfl, -⟩ := qd h
  simp (config := { maxSteps := 2000000 }) (disch := first | omega | (simp only [qb_in, qkW, qmW, qnW, true_and, and_true, or_self, true_or, or_true, and_self]; done) | (simp only [qb_in, qkW, qmW, qnW, true_and, and_true, or_self, true_or, or_true, and_self]; omega)) only [zD_156, b156_0, b156_4, b156_9, b156_20, qcall_l, qcall_r, qretn_l, qJ_s, qJ_n, qV0, qEx, ↓qif0, ↓zchk_pos, ↓reduceIte, qput, qWW, qmW, qkW, qnW, if_neg (show ¬ g < 0 by omega), if_neg (show ¬ 3 < g by omega)]
theorem qFq_18 {S : zS} {m' : Int → Int → Int} (f : qfs 18 19 (zm S) m') : qFq S m' := fun x j q => by
  by_cases c : x = 18
  · subst c
    by_cases c0 : j = 0
    · rw [c0]; exact f.2
    · exact absurd (Or.inl (Or.inr (Or.inl ⟨rfl, c0⟩))) q
  · by_cases c1 : x = 19
    · exact absurd (Or.inl (by unfold qscf; omega)) q
    · rw [f.1 x c c1]
theorem qFq_1 {S : zS} {m : Int → Int → Int} (h : qRC S) (q : qFq S m) : m 1 = zm S 1 := qFq_x h q (by decide) fun j => by unfold qscf; omega
theorem qPw_e {m m' : Int → Int → Int} (h1 : m' 37 12 = m 37 12) (h2 : m' 46 = m 46) (h3 : m' 47 = m 47) (h4 : m' 48 = m 48) (W : List Int) (dg : Int) : qPw m' W dg = qPw m W dg := by
  unfold qPw
  rw [h1, h2, h3, h4]
theorem qPw_1 (m : Int → Int → Int) (W : List Int) : qPw m W 1 = 0 := qfp_d _ _ _ _ _ _ _ _ _
theorem qPw_q {S : zS} {m' : Int → Int → Int} (h : qRC S) (hf : qFq S m') (W : List Int) (dg : Int) : qPw m' W dg = qPw (zm S) W dg :=
  qPw_e (qFq_37 h hf 12 (by unfold qscf; omega)) (qFq_x h hf (by decide) fun j => by unfold qscf; omega) (qFq_x h hf (by decide) fun j => by unfold qscf; omega) (qFq_x h hf (by decide) fun j => by unfold qscf; omega) W dg
/-- the division of a spelled word -/
theorem s_divisionOfWord (d : Nat) (S : zS) (x y : Int) (W : List Int) (st dg bg mk : Int) (h : 3 ≤ d) (hK : qK S) (hP : qP (zm S)) (hR : qRD S) (hk : qSk S x y) (hs : qSq (zm S) x y W st dg bg mk) (hW : 0 < W.length ∧ W.length ≤ 10) (hdg : dg = 0 ∨ dg = 1) :
    ∃ D, zD d 164 [vr 3, vr x] S = some (.inl (some (vr D)), S) ∧ qDo S D (qPw (zm S) W dg) W.length ∧ (D ≠ 0 → qDb S D) ∧ (qpl (qPw (zm S) W dg) W.length W.length).length ≤ 4 := by
  obtain ⟨e, rfl, h1⟩ := qd h
  obtain ⟨k1, k2⟩ := hk
  obtain ⟨s0, s1, s2, s3, s4, s5, s6⟩ := hs
  rcases hdg with c | c
  · obtain ⟨D, r, p1, p2, p3, -⟩ := s_divisionOf e S y W (by omega) hK hP hR k2 s6 hW
    refine ⟨D, ?_, by rw [c]; exact p1, p2, by rw [c]; exact p3⟩
    simp (config := { maxSteps := 2000000 }) (disch := first | omega | (simp only [K_3 hK, k1, qb_in, qkW, qmW, qnW, true_and, and_true, or_self, true_or, or_true, and_self]; done) | (simp only [K_3 hK, k1, qb_in, qkW, qmW, qnW, true_and, and_true, or_self, true_or, or_true, and_self]; omega)) only [zD_164, b164_0, b164_7, b164_11, b164_23, qcall_l, qcall_r, qretn_l, qJ_s, qJ_n, qV0, qEx, ↓qif0, ↓zchk_pos, ↓reduceIte, qput, qWW, qmW, qkW, qnW, K_3 hK, k1, s0, s1, s3, if_pos c, r]
  · refine ⟨0, ?_, by rw [c, qPw_1]; exact Or.inl ⟨rfl, rfl⟩, fun q => absurd rfl q, by rw [c, qPw_1, qpl_z _ hW.1]; show 1 ≤ 4; decide⟩
    simp (config := { maxSteps := 2000000 }) (disch := first | omega | (simp only [K_3 hK, k1, qb_in, qkW, qmW, qnW, true_and, and_true, or_self, true_or, or_true, and_self]; done) | (simp only [K_3 hK, k1, qb_in, qkW, qmW, qnW, true_and, and_true, or_self, true_or, or_true, and_self]; omega)) only [zD_164, b164_0, b164_7, b164_11, b164_23, qcall_l, qcall_r, qretn_l, qJ_s, qJ_n, qV0, qEx, ↓qif0, ↓zchk_pos, ↓reduceIte, qput, qWW, qmW, qkW, qnW, K_3 hK, k1, s3, if_neg (show ¬ dg = 0 by omega)]
theorem qmc_r (mk : Int) : 0 ≤ qmc mk ∧ qmc mk < 64 := by
  unfold qmc
  repeat' split
  all_goals omega
/-- the class writes the word of the tape -/
theorem s_writeTape (d : Nat) (S : zS) (W : List Int) (dg st bg mk E code g : Int) (h : 10 ≤ d) (hK : qK S) (hP : qP (zm S)) (hL : qLt (zm S)) (hT : qRT S) (hC : qRC S) (hR : qRD S) (hc : 0 ≤ code ∧ code < zm S 37 4) (hg : 0 ≤ g ∧ g ≤ 3) (ho : qOne S) (hw : qWk2 W dg st bg mk)
    (hs : ∀ (d : Nat) (S' : zS) (a b : Int), 4 ≤ d → qK S' → zm S' 4 0 = 5 → zm S' 4 1 = zm S 37 2 → (∀ i, i < zm S 37 2 → zm S' 5 i = zm S 38 i) → qSk S' a b → zm S' a 0 = b → ∃ m', zD d 97 [vr 4, vi 0, vr a] S' = some (.inl (some (vi E)), qW S' m') ∧ qSq m' a b W st dg bg (qmc mk) ∧ qfs a b (zm S') m') :
    ∃ m', zD d 161 [vr 3, vi code, vi g] S = some (.inl none, qW S m') ∧ qWp m' 20 21 22 (qwL (qTm (zm S) code) (zm S 39 code) g W (qPw (zm S) W dg) dg st bg (qmc mk)) (qwM (qTm (zm S) code) (zm S 39 code) g W (qPw (zm S) W dg) dg) (qwU (qTm (zm S) code) (zm S 39 code) g W (qPw (zm S) W dg) dg) (qwE (qTm (zm S) code) (zm S 39 code) g W (qPw (zm S) W dg) dg st bg) ∧ qFq S m' := by
  obtain ⟨e, rfl, h1⟩ := qd h
  have co := s_codeOf_y e S code (by omega) hK hP hC hc
  have cg := s_checkGrade_y e S g (by omega) hg
  obtain ⟨m1, r1, p1, f1⟩ := s_spellOne_y e S W dg st bg mk E (by omega) hK hP hT ho hs
  have q1 : qFq S m1 := qFq_18 f1
  have hP1 := qFq_P hC hP q1
  have hC1 := qRC_q hC q1
  have hL1 := qFq_L hC hL q1
  obtain ⟨w1, w2, w3, w4, w5, w6⟩ := hw
  have hdg : dg = 0 ∨ dg = 1 := by omega
  obtain ⟨D, r2, p2, p3, p4⟩ := s_divisionOfWord e (qW S m1) 18 19 W st dg bg (qmc mk) (by omega) hK hP1 (qRD_q hC hR q1) ⟨K_18 hK, K_19 hK⟩ p1 w1 hdg
  have eP : qPw (zm (qW S m1)) W dg = qPw (zm S) W dg := qPw_q hC q1 W dg
  rw [eP] at p2 p4
  obtain ⟨z1, z2, z3, z4⟩ := hC1.2.2.1 code hc.1 (by show code < m1 37 4; rw [qFq_37 hC q1 4 (by unfold qscf; omega)]; exact hc.2)
  have e6 : m1 6 = zm S 6 := qFq_x hC q1 (by decide) fun j => by unfold qscf; omega
  have e39 : m1 39 = zm S 39 := qFq_tb hC q1 39 (by decide) (by decide)
  have eT : qTm m1 code = qTm (zm S) code := qTm_e (qFq_tb hC q1) code
  simp only [qmW, e6, e39, eT] at z1 z2 z3
  obtain ⟨k0, k1, k2, k3, k4, y0, y2, y3, y30, b1, b2⟩ := z1
  have n18 : (18 : Int) ≠ zm S 6 code + 3 ∧ (19 : Int) ≠ zm S 6 code + 4 := by omega
  obtain ⟨m2, r3, p5, f2⟩ := s_write e (qW S m1) (zm S 6 code) (zm S 39 code) g 18 19 20 21 22 D (qPw (zm S) W dg) (zm S 6 code + 3) (zm S 6 code + 4) (qmc mk) st dg bg (qTm (zm S) code) W (by omega) hK hL1 z2 z3 ⟨K_18 hK, K_19 hK⟩ p1 w1 w2 (by
    rcases w3 with q | ⟨q1, q2, q3, q4⟩
    · exact Or.inl q.1
    · exact Or.inr ⟨q1, q2, by rw [q1, qPw_1], q4⟩) w4 p2 (fun q => by have := (p3 q).2.2.2.2.1; have := (p3 q).2.2.2.2.2.1; omega) p4 ⟨K_20 hK, K_21 hK, K_22 hK, by decide, by decide, by decide⟩ ⟨P_20_0 hP1, P_20_4 hP1⟩ y3 ⟨k3, k4⟩ y30 n18
  have q2 : qFq S m2 := fun x j q => by
    by_cases c20 : x = 20
    · subst c20
      by_cases j0 : j = 0
      · rw [j0, p5.1, P_20_0 hP]
      · by_cases j4 : j = 4
        · rw [j4, p5.2.1, P_20_4 hP]
        · exact absurd (Or.inl (by unfold qscf; omega)) q
    · by_cases c21 : x = 21
      · exact absurd (Or.inl (by unfold qscf; omega)) q
      · by_cases c22 : x = 22
        · exact absurd (Or.inl (by unfold qscf; omega)) q
        · by_cases c3 : x = zm S 6 code + 3
          · by_cases j0 : j = 0
            · rw [c3, j0, f2.2]
              exact q1 _ _ (by rw [← c3, ← j0]; exact q)
            · exact absurd (Or.inr ⟨code, hc.1, hc.2, by omega⟩) q
          · by_cases c4 : x = zm S 6 code + 4
            · exact absurd (Or.inr ⟨code, hc.1, hc.2, by omega⟩) q
            · rw [f2.1 x c20 c21 c22 c3 c4]
              exact q1 x j q
  refine ⟨m2, ?_, p5, q2⟩
  simp (config := { maxSteps := 2000000 }) (disch := first | omega | (simp only [K_3 hK, K_18 hK, P_3_14 hP, K_20 hK, P_3_15 hP, P_3_14 hP1, P_3_15 hP1, k0, qb_in, qkW, qmW, qnW, true_and, and_true, or_self, true_or, or_true, and_self]; done) | (simp only [K_3 hK, K_18 hK, P_3_14 hP, K_20 hK, P_3_15 hP, P_3_14 hP1, P_3_15 hP1, k0, qb_in, qkW, qmW, qnW, true_and, and_true, or_self, true_or, or_true, and_self]; omega)) only [zD_161, b161_0, b161_5, b161_10, b161_14, b161_27, b161_35, qcall_l, qcall_r, qretn_l, qJ_s, qJ_n, qV0, qEx, ↓qif0, ↓zchk_pos, ↓reduceIte, qput, qWW, qmW, qkW, qnW, K_3 hK, K_18 hK, P_3_14 hP, K_20 hK, P_3_15 hP, P_3_14 hP1, P_3_15 hP1, co, cg, r1, r2, r3, k0]
