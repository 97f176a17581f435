/-! The books that both know, so far as codes and counts go. -/
def qBh (S : zS) : Prop := zm S 3 6 = zm S 37 16 ∧ (0 ≤ zm S 37 16 ∧ zm S 37 16 ≤ 4) ∧ ∀ i, 0 ≤ i → i < zm S 37 16 → zk S (zm S 8 i) = (20, 0) ∧ (103 ≤ zm S 8 i ∧ zm S 8 i < zn S) ∧ zm S (zm S 8 i) 1 = zm S 6 (zm S 49 i) ∧ (0 ≤ zm S 49 i ∧ zm S 49 i < zm S 37 4) ∧ zm S (zm S 8 i) 7 = zm S 54 i
/-- whether one of the first books has words of a code, of any for -1 -/
def qhwf (m : Int → Int → Int) (c : Int) : Nat → Int
  | 0 => 0
  | k + 1 => if qhwf m c k = 0 then (if 0 < m 54 k ∧ (c = -1 ∨ m 49 k = c) then 1 else 0) else 1
theorem qhwf_r (m : Int → Int → Int) (c : Int) : ∀ k, qhwf m c k = 0 ∨ qhwf m c k = 1 := by
  intro k
  cases k with
  | zero => exact Or.inl rfl
  | succ k =>
    rw [qhwf]
    repeat' split
    all_goals simp
theorem qhwf_u (m : Int → Int → Int) (c : Int) (k : Nat) (h : qhwf m c k = 1) : ∀ g, qhwf m c (k + g) = 1 := by
  intro g
  induction g with
  | zero => exact h
  | succ g ih =>
    rw [show k + (g + 1) = k + g + 1 from rfl, qhwf, if_neg (by omega)]
theorem r_hasWords (d : Nat) (S : zS) (c : Int) (h : 1 ≤ d) (hK : qK S) (hP : qP (zm S)) (hB : 0 ≤ zm S 37 16 ∧ zm S 37 16 ≤ 4) : zD d 210 [vr 37, vi c] S = some (.inl (some (vi (qhwf (zm S) c (zm S 37 16).toNat))), S) := by
  obtain ⟨e, rfl, -⟩ := qd h
  have lp : ∀ (g i : Nat), i + g = (zm S 37 16).toNat → zF_210 e 4 [vr 37, vi c, vi (qhwf (zm S) c i), vi i] [] S = some (.inl (some (vi (qhwf (zm S) c (zm S 37 16).toNat))), S) := by
    intro g
    induction g with
    | zero =>
      intro i hi
      have hi : i = (zm S 37 16).toNat := by omega
      have hr := qhwf_r (zm S) c (zm S 37 16).toNat
      have hr : 0 ≤ qhwf (zm S) c (zm S 37 16).toNat ∧ qhwf (zm S) c (zm S 37 16).toNat ≤ 1 := by omega
      subst hi
      rw [b210_4]
      simp (config := { maxSteps := 2000000 }) (disch := first | omega | (simp only [K_37 hK, qb_in, qkW, qmW, qnW, true_and, and_true, or_self, true_or, or_true, and_self]; done) | (simp only [K_37 hK, qb_in, qkW, qmW, qnW, true_and, and_true, or_self, true_or, or_true, and_self]; omega)) only [b210_0, b210_12, b210_16, b210_25, b210_30, b210_40, b210_44, b210_45, b210_52, qcall_l, qcall_r, qretn_l, qJ_s, qJ_n, qV0, qEx, ↓qif0, ↓zchk_pos, ↓reduceIte, qput, qWW, qmW, qkW, qnW, K_37 hK, if_neg (show ¬ (((zm S 37 16).toNat : Nat) : Int) < zm S 37 16 by omega), hr, true_and, and_self]
    | succ g ih =>
      intro i hi
      have r := ih (i + 1) (by omega)
      rw [qhwf] at r
      rw [b210_4]
      by_cases c0 : qhwf (zm S) c i = 0
      · rw [if_pos c0] at r
        rw [c0]
        by_cases c1 : 0 < zm S 54 i
        · by_cases c2 : c = -1
          · rw [if_pos ⟨c1, Or.inl c2⟩] at r
            simp (config := { maxSteps := 2000000 }) (disch := first | omega | (simp only [K_37 hK, K_54 hK, K_49 hK, P_37_22 hP, P_37_17 hP, qb_in, qkW, qmW, qnW, true_and, and_true, or_self, true_or, or_true, and_self]; done) | (simp only [K_37 hK, K_54 hK, K_49 hK, P_37_22 hP, P_37_17 hP, qb_in, qkW, qmW, qnW, true_and, and_true, or_self, true_or, or_true, and_self]; omega)) only [b210_0, b210_12, b210_16, b210_25, b210_30, b210_40, b210_44, b210_45, b210_52, qcall_l, qcall_r, qretn_l, qJ_s, qJ_n, qV0, qEx, ↓qif0, ↓zchk_pos, ↓reduceIte, qput, qWW, qmW, qkW, qnW, K_37 hK, K_54 hK, K_49 hK, P_37_22 hP, P_37_17 hP, if_pos (show (i : Int) < zm S 37 16 by omega), if_pos c1, if_pos c2, Int.reduceEq, q32]
            exact r
          · by_cases c3 : zm S 49 i = c
            · rw [if_pos ⟨c1, Or.inr c3⟩] at r
              simp (config := { maxSteps := 2000000 }) (disch := first | omega | (simp only [K_37 hK, K_54 hK, K_49 hK, P_37_22 hP, P_37_17 hP, qb_in, qkW, qmW, qnW, true_and, and_true, or_self, true_or, or_true, and_self]; done) | (simp only [K_37 hK, K_54 hK, K_49 hK, P_37_22 hP, P_37_17 hP, qb_in, qkW, qmW, qnW, true_and, and_true, or_self, true_or, or_true, and_self]; omega)) only [b210_0, b210_12, b210_16, b210_25, b210_30, b210_40, b210_44, b210_45, b210_52, qcall_l, qcall_r, qretn_l, qJ_s, qJ_n, qV0, qEx, ↓qif0, ↓zchk_pos, ↓reduceIte, qput, qWW, qmW, qkW, qnW, K_37 hK, K_54 hK, K_49 hK, P_37_22 hP, P_37_17 hP, if_pos (show (i : Int) < zm S 37 16 by omega), if_pos c1, if_neg c2, if_pos c3, Int.reduceEq, q32]
              exact r
            · rw [if_neg (fun z => z.2.elim c2 c3)] at r
              simp (config := { maxSteps := 2000000 }) (disch := first | omega | (simp only [K_37 hK, K_54 hK, K_49 hK, P_37_22 hP, P_37_17 hP, qb_in, qkW, qmW, qnW, true_and, and_true, or_self, true_or, or_true, and_self]; done) | (simp only [K_37 hK, K_54 hK, K_49 hK, P_37_22 hP, P_37_17 hP, qb_in, qkW, qmW, qnW, true_and, and_true, or_self, true_or, or_true, and_self]; omega)) only [b210_0, b210_12, b210_16, b210_25, b210_30, b210_40, b210_44, b210_45, b210_52, qcall_l, qcall_r, qretn_l, qJ_s, qJ_n, qV0, qEx, ↓qif0, ↓zchk_pos, ↓reduceIte, qput, qWW, qmW, qkW, qnW, K_37 hK, K_54 hK, K_49 hK, P_37_22 hP, P_37_17 hP, if_pos (show (i : Int) < zm S 37 16 by omega), if_pos c1, if_neg c2, if_neg c3, Int.reduceEq, q32]
              exact r
        · rw [if_neg (fun z => c1 z.1)] at r
          simp (config := { maxSteps := 2000000 }) (disch := first | omega | (simp only [K_37 hK, K_54 hK, K_49 hK, P_37_22 hP, P_37_17 hP, qb_in, qkW, qmW, qnW, true_and, and_true, or_self, true_or, or_true, and_self]; done) | (simp only [K_37 hK, K_54 hK, K_49 hK, P_37_22 hP, P_37_17 hP, qb_in, qkW, qmW, qnW, true_and, and_true, or_self, true_or, or_true, and_self]; omega)) only [b210_0, b210_12, b210_16, b210_25, b210_30, b210_40, b210_44, b210_45, b210_52, qcall_l, qcall_r, qretn_l, qJ_s, qJ_n, qV0, qEx, ↓qif0, ↓zchk_pos, ↓reduceIte, qput, qWW, qmW, qkW, qnW, K_37 hK, K_54 hK, K_49 hK, P_37_22 hP, P_37_17 hP, if_pos (show (i : Int) < zm S 37 16 by omega), if_neg c1, Int.reduceEq, q32]
          exact r
      · have c1 : qhwf (zm S) c i = 1 := (qhwf_r (zm S) c i).resolve_left c0
        rw [if_neg c0] at r
        rw [c1]
        simp (config := { maxSteps := 2000000 }) (disch := first | omega | (simp only [K_37 hK, qb_in, qkW, qmW, qnW, true_and, and_true, or_self, true_or, or_true, and_self]; done) | (simp only [K_37 hK, qb_in, qkW, qmW, qnW, true_and, and_true, or_self, true_or, or_true, and_self]; omega)) only [b210_0, b210_12, b210_16, b210_25, b210_30, b210_40, b210_44, b210_45, b210_52, qcall_l, qcall_r, qretn_l, qJ_s, qJ_n, qV0, qEx, ↓qif0, ↓zchk_pos, ↓reduceIte, qput, qWW, qmW, qkW, qnW, K_37 hK, if_pos (show (i : Int) < zm S 37 16 by omega), Int.reduceEq, q32]
        exact r
  have r := lp (zm S 37 16).toNat 0 (by omega)
  simp (config := { maxSteps := 2000000 }) (disch := first | omega | (simp only [qb_in, qkW, qmW, qnW, true_and, and_true, or_self, true_or, or_true, and_self]; done) | (simp only [qb_in, qkW, qmW, qnW, true_and, and_true, or_self, true_or, or_true, and_self]; omega)) only [zD_210, b210_0, b210_12, b210_16, b210_25, b210_30, b210_40, b210_44, b210_45, b210_52, qcall_l, qcall_r, qretn_l, qJ_s, qJ_n, qV0, qEx, ↓qif0, ↓zchk_pos, ↓reduceIte, qput, qWW, qmW, qkW, qnW]
  exact r
theorem s_hasWordsAtAll (d : Nat) (S : zS) (h : 1 ≤ d) (hK : qK S) (hP : qP (zm S)) (hB : qBh S) : zD d 166 [vr 3] S = some (.inl (some (vi (qhwf (zm S) (-1) (zm S 37 16).toNat))), S) := by
  obtain ⟨e, rfl, -⟩ := qd h
  obtain ⟨b1, b2, b3⟩ := hB
  have lp : ∀ (g i : Nat), i + g = (zm S 37 16).toNat → qhwf (zm S) (-1) i = 0 → zF_166 e 2 [vr 3, vi i] [] S = some (.inl (some (vi (qhwf (zm S) (-1) (zm S 37 16).toNat))), S) := by
    intro g
    induction g with
    | zero =>
      intro i hi h0
      have hi : i = (zm S 37 16).toNat := by omega
      subst hi
      rw [b166_2, h0]
      simp (config := { maxSteps := 2000000 }) (disch := first | omega | (simp only [K_3 hK, qb_in, qkW, qmW, qnW, true_and, and_true, or_self, true_or, or_true, and_self]; done) | (simp only [K_3 hK, qb_in, qkW, qmW, qnW, true_and, and_true, or_self, true_or, or_true, and_self]; omega)) only [b166_0, b166_10, b166_22, b166_24, b166_30, qcall_l, qcall_r, qretn_l, qJ_s, qJ_n, qV0, qEx, ↓qif0, ↓zchk_pos, ↓reduceIte, qput, qWW, qmW, qkW, qnW, K_3 hK, b1, if_neg (show ¬ (((zm S 37 16).toNat : Nat) : Int) < zm S 37 16 by omega), Int.reduceLE, true_and, and_self]
    | succ g ih =>
      intro i hi h0
      have hlt : (i : Int) < zm S 37 16 := by omega
      obtain ⟨k1, k2, k3, k4, k5⟩ := b3 i (by omega) hlt
      have hs : qhwf (zm S) (-1) (i + 1) = if 0 < zm S 54 i ∧ ((-1 : Int) = -1 ∨ zm S 49 i = -1) then 1 else 0 := by rw [qhwf, if_pos h0]
      rw [b166_2]
      by_cases c1 : 0 < zm S 54 i
      · rw [if_pos ⟨c1, Or.inl rfl⟩] at hs
        have hu := qhwf_u _ _ _ hs g
        rw [show i + 1 + g = (zm S 37 16).toNat by omega] at hu
        rw [hu]
        simp (config := { maxSteps := 2000000 }) (disch := first | omega | (simp only [K_3 hK, K_8 hK, P_3_5 hP, k1, qb_in, qkW, qmW, qnW, true_and, and_true, or_self, true_or, or_true, and_self]; done) | (simp only [K_3 hK, K_8 hK, P_3_5 hP, k1, qb_in, qkW, qmW, qnW, true_and, and_true, or_self, true_or, or_true, and_self]; omega)) only [b166_0, b166_10, b166_22, b166_24, b166_30, qcall_l, qcall_r, qretn_l, qJ_s, qJ_n, qV0, qEx, ↓qif0, ↓zchk_pos, ↓reduceIte, qput, qWW, qmW, qkW, qnW, K_3 hK, b1, K_8 hK, P_3_5 hP, k1, k5, if_pos hlt, if_pos c1, Int.reduceLE, true_and, and_self]
      · rw [if_neg (fun z => c1 z.1)] at hs
        have r := ih (i + 1) (by omega) hs
        simp (config := { maxSteps := 2000000 }) (disch := first | omega | (simp only [K_3 hK, K_8 hK, P_3_5 hP, k1, qb_in, qkW, qmW, qnW, true_and, and_true, or_self, true_or, or_true, and_self]; done) | (simp only [K_3 hK, K_8 hK, P_3_5 hP, k1, qb_in, qkW, qmW, qnW, true_and, and_true, or_self, true_or, or_true, and_self]; omega)) only [b166_0, b166_10, b166_22, b166_24, b166_30, qcall_l, qcall_r, qretn_l, qJ_s, qJ_n, qV0, qEx, ↓qif0, ↓zchk_pos, ↓reduceIte, qput, qWW, qmW, qkW, qnW, K_3 hK, b1, K_8 hK, P_3_5 hP, k1, k5, if_pos hlt, if_neg c1, q32]
        exact r
  have r := lp (zm S 37 16).toNat 0 (by omega) rfl
  simp (config := { maxSteps := 2000000 }) (disch := first | omega | (simp only [qb_in, qkW, qmW, qnW, true_and, and_true, or_self, true_or, or_true, and_self]; done) | (simp only [qb_in, qkW, qmW, qnW, true_and, and_true, or_self, true_or, or_true, and_self]; omega)) only [zD_166, b166_0, b166_10, b166_22, b166_24, b166_30, qcall_l, qcall_r, qretn_l, qJ_s, qJ_n, qV0, qEx, ↓qif0, ↓zchk_pos, ↓reduceIte, qput, qWW, qmW, qkW, qnW]
  exact r
theorem s_hasWordsOfCode (d : Nat) (S : zS) (c : Int) (h : 1 ≤ d) (hK : qK S) (hP : qP (zm S)) (hC : qRC S) (hB : qBh S) (hc : 0 ≤ c ∧ c < zm S 37 4) : zD d 165 [vr 3, vr (zm S 6 c)] S = some (.inl (some (vi (qhwf (zm S) c (zm S 37 16).toNat))), S) := by
  obtain ⟨e, rfl, -⟩ := qd h
  obtain ⟨b1, b2, b3⟩ := hB
  obtain ⟨-, -, r3, r4, -⟩ := hC
  have hb : ∀ i, 0 ≤ i → i < zm S 37 4 → 103 ≤ zm S 6 i := fun i i1 i2 => by
    obtain ⟨-, -, -, -, -, -, -, -, -, q1, -⟩ := (r3 i i1 i2).1
    exact q1
  have ne : ∀ i, 0 ≤ i → i < zm S 37 4 → (zm S 6 i = zm S 6 c ↔ i = c) := fun i i1 i2 => ⟨fun z => by
    by_cases q : i = c
    · exact q
    · by_cases q2 : i < c
      · exact absurd z (r4 i c i1 q2 hc.2)
      · exact absurd z.symm (r4 c i hc.1 (by omega) i2), fun z => by rw [z]⟩
  have lp : ∀ (g i : Nat), i + g = (zm S 37 16).toNat → qhwf (zm S) c i = 0 → zF_165 e 2 [vr 3, vr (zm S 6 c), vi i] [] S = some (.inl (some (vi (qhwf (zm S) c (zm S 37 16).toNat))), S) := by
    intro g
    induction g with
    | zero =>
      intro i hi h0
      have hi : i = (zm S 37 16).toNat := by omega
      subst hi
      rw [b165_2, h0]
      simp (config := { maxSteps := 2000000 }) (disch := first | omega | (simp only [K_3 hK, qb_in, qkW, qmW, qnW, true_and, and_true, or_self, true_or, or_true, and_self]; done) | (simp only [K_3 hK, qb_in, qkW, qmW, qnW, true_and, and_true, or_self, true_or, or_true, and_self]; omega)) only [b165_0, b165_10, b165_23, b165_35, b165_37, b165_43, qcall_l, qcall_r, qretn_l, qJ_s, qJ_n, qV0, qEx, ↓qif0, ↓zchk_pos, ↓reduceIte, qput, qWW, qmW, qkW, qnW, K_3 hK, b1, if_neg (show ¬ (((zm S 37 16).toNat : Nat) : Int) < zm S 37 16 by omega), Int.reduceLE, true_and, and_self]
    | succ g ih =>
      intro i hi h0
      have hlt : (i : Int) < zm S 37 16 := by omega
      obtain ⟨k1, k2, k3, k4, k5⟩ := b3 i (by omega) hlt
      have hs : qhwf (zm S) c (i + 1) = if 0 < zm S 54 i ∧ (c = -1 ∨ zm S 49 i = c) then 1 else 0 := by rw [qhwf, if_pos h0]
      have hb1 := hb _ k4.1 k4.2
      have hb2 := hb c hc.1 hc.2
      rw [b165_2]
      by_cases c2 : zm S 6 (zm S 49 i) = zm S 6 c
      · have c3 := (ne _ k4.1 k4.2).mp c2
        by_cases c1 : 0 < zm S 54 i
        · rw [if_pos ⟨c1, Or.inr c3⟩] at hs
          have hu := qhwf_u _ _ _ hs g
          rw [show i + 1 + g = (zm S 37 16).toNat by omega] at hu
          rw [hu]
          simp (config := { maxSteps := 2000000 }) (disch := first | omega | (simp only [K_3 hK, K_8 hK, P_3_5 hP, k1, k3, qb_in, qkW, qmW, qnW, true_and, and_true, or_self, true_or, or_true, and_self]; done) | (simp only [K_3 hK, K_8 hK, P_3_5 hP, k1, k3, qb_in, qkW, qmW, qnW, true_and, and_true, or_self, true_or, or_true, and_self]; omega)) only [b165_0, b165_10, b165_23, b165_35, b165_37, b165_43, qcall_l, qcall_r, qretn_l, qJ_s, qJ_n, qV0, qEx, ↓qif0, ↓zchk_pos, ↓reduceIte, qput, qWW, qmW, qkW, qnW, K_3 hK, b1, K_8 hK, P_3_5 hP, k1, k3, k5, if_pos hlt, if_pos c2, if_pos c1, Int.reduceLE, true_and, and_self]
        · rw [if_neg (fun z => c1 z.1)] at hs
          have r := ih (i + 1) (by omega) hs
          simp (config := { maxSteps := 2000000 }) (disch := first | omega | (simp only [K_3 hK, K_8 hK, P_3_5 hP, k1, k3, qb_in, qkW, qmW, qnW, true_and, and_true, or_self, true_or, or_true, and_self]; done) | (simp only [K_3 hK, K_8 hK, P_3_5 hP, k1, k3, qb_in, qkW, qmW, qnW, true_and, and_true, or_self, true_or, or_true, and_self]; omega)) only [b165_0, b165_10, b165_23, b165_35, b165_37, b165_43, qcall_l, qcall_r, qretn_l, qJ_s, qJ_n, qV0, qEx, ↓qif0, ↓zchk_pos, ↓reduceIte, qput, qWW, qmW, qkW, qnW, K_3 hK, b1, K_8 hK, P_3_5 hP, k1, k3, k5, if_pos hlt, if_pos c2, if_neg c1, q32]
          exact r
      · have c3 : ¬ zm S 49 i = c := fun z => c2 ((ne _ k4.1 k4.2).mpr z)
        rw [if_neg (fun z => z.2.elim (fun y => by omega) c3)] at hs
        have r := ih (i + 1) (by omega) hs
        simp (config := { maxSteps := 2000000 }) (disch := first | omega | (simp only [K_3 hK, K_8 hK, P_3_5 hP, k1, k3, qb_in, qkW, qmW, qnW, true_and, and_true, or_self, true_or, or_true, and_self]; done) | (simp only [K_3 hK, K_8 hK, P_3_5 hP, k1, k3, qb_in, qkW, qmW, qnW, true_and, and_true, or_self, true_or, or_true, and_self]; omega)) only [b165_0, b165_10, b165_23, b165_35, b165_37, b165_43, qcall_l, qcall_r, qretn_l, qJ_s, qJ_n, qV0, qEx, ↓qif0, ↓zchk_pos, ↓reduceIte, qput, qWW, qmW, qkW, qnW, K_3 hK, b1, K_8 hK, P_3_5 hP, k1, k3, k5, if_pos hlt, if_neg c2, q32]
        exact r
  have r := lp (zm S 37 16).toNat 0 (by omega) rfl
  simp (config := { maxSteps := 2000000 }) (disch := first | omega | (simp only [qb_in, qkW, qmW, qnW, true_and, and_true, or_self, true_or, or_true, and_self]; done) | (simp only [qb_in, qkW, qmW, qnW, true_and, and_true, or_self, true_or, or_true, and_self]; omega)) only [zD_165, b165_0, b165_10, b165_23, b165_35, b165_37, b165_43, qcall_l, qcall_r, qretn_l, qJ_s, qJ_n, qV0, qEx, ↓qif0, ↓zchk_pos, ↓reduceIte, qput, qWW, qmW, qkW, qnW]
  exact r
