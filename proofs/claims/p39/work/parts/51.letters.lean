/-! Letters and their cells. -/
def qlc (l : Int) : Int := if l = 0 then 1 else if l = 1 then 3 else if l = 2 then 9 else if l = 3 then 25 else if l = 4 then 17 else if l = 5 then 11 else if l = 6 then 27 else if l = 7 then 19 else if l = 8 then 10 else if l = 9 then 26 else if l = 10 then 5 else if l = 11 then 7 else if l = 12 then 13 else if l = 13 then 29 else if l = 14 then 21 else if l = 15 then 15 else if l = 16 then 31 else if l = 17 then 23 else if l = 18 then 14 else if l = 19 then 30 else if l = 20 then 37 else if l = 21 then 39 else if l = 22 then 58 else if l = 23 then 45 else if l = 24 then 61 else if l = 25 then 53 else 0
def qlo (c : Int) : Int := if 1 = c then 0 else if 3 = c then 1 else if 9 = c then 2 else if 25 = c then 3 else if 17 = c then 4 else if 11 = c then 5 else if 27 = c then 6 else if 19 = c then 7 else if 10 = c then 8 else if 26 = c then 9 else if 5 = c then 10 else if 7 = c then 11 else if 13 = c then 12 else if 29 = c then 13 else if 21 = c then 14 else if 15 = c then 15 else if 31 = c then 16 else if 23 = c then 17 else if 14 = c then 18 else if 30 = c then 19 else if 37 = c then 20 else if 39 = c then 21 else if 58 = c then 22 else if 45 = c then 23 else if 61 = c then 24 else if 53 = c then 25 else -1
def qLt (m : Int → Int → Int) : Prop := ∀ q ∈ [(((0 : Int)), ((1 : Int))), (((1 : Int)), ((3 : Int))), (((2 : Int)), ((9 : Int))), (((3 : Int)), ((25 : Int))), (((4 : Int)), ((17 : Int))), (((5 : Int)), ((11 : Int))), (((6 : Int)), ((27 : Int))), (((7 : Int)), ((19 : Int))), (((8 : Int)), ((10 : Int))), (((9 : Int)), ((26 : Int))), (((10 : Int)), ((5 : Int))), (((11 : Int)), ((7 : Int))), (((12 : Int)), ((13 : Int))), (((13 : Int)), ((29 : Int))), (((14 : Int)), ((21 : Int))), (((15 : Int)), ((15 : Int))), (((16 : Int)), ((31 : Int))), (((17 : Int)), ((23 : Int))), (((18 : Int)), ((14 : Int))), (((19 : Int)), ((30 : Int))), (((20 : Int)), ((37 : Int))), (((21 : Int)), ((39 : Int))), (((22 : Int)), ((58 : Int))), (((23 : Int)), ((45 : Int))), (((24 : Int)), ((61 : Int))), (((25 : Int)), ((53 : Int)))], m 2 q.1 = q.2
theorem L_0 {m : Int → Int → Int} (h : qLt m) : m 2 0 = 1 := h (0, 1) (by decide)
theorem L_1 {m : Int → Int → Int} (h : qLt m) : m 2 1 = 3 := h (1, 3) (by decide)
theorem L_2 {m : Int → Int → Int} (h : qLt m) : m 2 2 = 9 := h (2, 9) (by decide)
theorem L_3 {m : Int → Int → Int} (h : qLt m) : m 2 3 = 25 := h (3, 25) (by decide)
theorem L_4 {m : Int → Int → Int} (h : qLt m) : m 2 4 = 17 := h (4, 17) (by decide)
theorem L_5 {m : Int → Int → Int} (h : qLt m) : m 2 5 = 11 := h (5, 11) (by decide)
theorem L_6 {m : Int → Int → Int} (h : qLt m) : m 2 6 = 27 := h (6, 27) (by decide)
theorem L_7 {m : Int → Int → Int} (h : qLt m) : m 2 7 = 19 := h (7, 19) (by decide)
theorem L_8 {m : Int → Int → Int} (h : qLt m) : m 2 8 = 10 := h (8, 10) (by decide)
theorem L_9 {m : Int → Int → Int} (h : qLt m) : m 2 9 = 26 := h (9, 26) (by decide)
theorem L_10 {m : Int → Int → Int} (h : qLt m) : m 2 10 = 5 := h (10, 5) (by decide)
theorem L_11 {m : Int → Int → Int} (h : qLt m) : m 2 11 = 7 := h (11, 7) (by decide)
theorem L_12 {m : Int → Int → Int} (h : qLt m) : m 2 12 = 13 := h (12, 13) (by decide)
theorem L_13 {m : Int → Int → Int} (h : qLt m) : m 2 13 = 29 := h (13, 29) (by decide)
theorem L_14 {m : Int → Int → Int} (h : qLt m) : m 2 14 = 21 := h (14, 21) (by decide)
theorem L_15 {m : Int → Int → Int} (h : qLt m) : m 2 15 = 15 := h (15, 15) (by decide)
theorem L_16 {m : Int → Int → Int} (h : qLt m) : m 2 16 = 31 := h (16, 31) (by decide)
theorem L_17 {m : Int → Int → Int} (h : qLt m) : m 2 17 = 23 := h (17, 23) (by decide)
theorem L_18 {m : Int → Int → Int} (h : qLt m) : m 2 18 = 14 := h (18, 14) (by decide)
theorem L_19 {m : Int → Int → Int} (h : qLt m) : m 2 19 = 30 := h (19, 30) (by decide)
theorem L_20 {m : Int → Int → Int} (h : qLt m) : m 2 20 = 37 := h (20, 37) (by decide)
theorem L_21 {m : Int → Int → Int} (h : qLt m) : m 2 21 = 39 := h (21, 39) (by decide)
theorem L_22 {m : Int → Int → Int} (h : qLt m) : m 2 22 = 58 := h (22, 58) (by decide)
theorem L_23 {m : Int → Int → Int} (h : qLt m) : m 2 23 = 45 := h (23, 45) (by decide)
theorem L_24 {m : Int → Int → Int} (h : qLt m) : m 2 24 = 61 := h (24, 61) (by decide)
theorem L_25 {m : Int → Int → Int} (h : qLt m) : m 2 25 = 53 := h (25, 53) (by decide)
theorem qlc_cases {l : Int} (h : 0 ≤ l ∧ l < 26) : l = 0 ∨ l = 1 ∨ l = 2 ∨ l = 3 ∨ l = 4 ∨ l = 5 ∨ l = 6 ∨ l = 7 ∨ l = 8 ∨ l = 9 ∨ l = 10 ∨ l = 11 ∨ l = 12 ∨ l = 13 ∨ l = 14 ∨ l = 15 ∨ l = 16 ∨ l = 17 ∨ l = 18 ∨ l = 19 ∨ l = 20 ∨ l = 21 ∨ l = 22 ∨ l = 23 ∨ l = 24 ∨ l = 25 := by omega
theorem qLt_lc {m : Int → Int → Int} (hL : qLt m) (l : Int) (h : 0 ≤ l ∧ l < 26) : m 2 l = qlc l := by
  rcases qlc_cases h with rfl | rfl | rfl | rfl | rfl | rfl | rfl | rfl | rfl | rfl | rfl | rfl | rfl | rfl | rfl | rfl | rfl | rfl | rfl | rfl | rfl | rfl | rfl | rfl | rfl | rfl
  all_goals simp only [L_0 hL, L_1 hL, L_2 hL, L_3 hL, L_4 hL, L_5 hL, L_6 hL, L_7 hL, L_8 hL, L_9 hL, L_10 hL, L_11 hL, L_12 hL, L_13 hL, L_14 hL, L_15 hL, L_16 hL, L_17 hL, L_18 hL, L_19 hL, L_20 hL, L_21 hL, L_22 hL, L_23 hL, L_24 hL, L_25 hL]
  all_goals rfl
theorem qlo_lc (l : Int) (h : 0 ≤ l ∧ l < 26) : qlo (qlc l) = l := by
  rcases qlc_cases h with rfl | rfl | rfl | rfl | rfl | rfl | rfl | rfl | rfl | rfl | rfl | rfl | rfl | rfl | rfl | rfl | rfl | rfl | rfl | rfl | rfl | rfl | rfl | rfl | rfl | rfl <;> rfl
theorem qlc_r (l : Int) : 0 ≤ qlc l ∧ qlc l < 64 := by
  unfold qlc
  repeat' split
  all_goals omega
theorem qlc_p (l : Int) (h : 0 ≤ l ∧ l < 26) : 0 < qlc l := by
  rcases qlc_cases h with rfl | rfl | rfl | rfl | rfl | rfl | rfl | rfl | rfl | rfl | rfl | rfl | rfl | rfl | rfl | rfl | rfl | rfl | rfl | rfl | rfl | rfl | rfl | rfl | rfl | rfl <;> decide
theorem qlo_r (c : Int) : -1 ≤ qlo c ∧ qlo c < 26 := by
  unfold qlo
  repeat' split
  all_goals omega
theorem qlc_lo (c : Int) (h : qlo c ≠ -1) : qlc (qlo c) = c := by
  by_cases h0 : (1 : Int) = c
  · subst h0
    rfl
  by_cases h1 : (3 : Int) = c
  · subst h1
    rfl
  by_cases h2 : (9 : Int) = c
  · subst h2
    rfl
  by_cases h3 : (25 : Int) = c
  · subst h3
    rfl
  by_cases h4 : (17 : Int) = c
  · subst h4
    rfl
  by_cases h5 : (11 : Int) = c
  · subst h5
    rfl
  by_cases h6 : (27 : Int) = c
  · subst h6
    rfl
  by_cases h7 : (19 : Int) = c
  · subst h7
    rfl
  by_cases h8 : (10 : Int) = c
  · subst h8
    rfl
  by_cases h9 : (26 : Int) = c
  · subst h9
    rfl
  by_cases h10 : (5 : Int) = c
  · subst h10
    rfl
  by_cases h11 : (7 : Int) = c
  · subst h11
    rfl
  by_cases h12 : (13 : Int) = c
  · subst h12
    rfl
  by_cases h13 : (29 : Int) = c
  · subst h13
    rfl
  by_cases h14 : (21 : Int) = c
  · subst h14
    rfl
  by_cases h15 : (15 : Int) = c
  · subst h15
    rfl
  by_cases h16 : (31 : Int) = c
  · subst h16
    rfl
  by_cases h17 : (23 : Int) = c
  · subst h17
    rfl
  by_cases h18 : (14 : Int) = c
  · subst h18
    rfl
  by_cases h19 : (30 : Int) = c
  · subst h19
    rfl
  by_cases h20 : (37 : Int) = c
  · subst h20
    rfl
  by_cases h21 : (39 : Int) = c
  · subst h21
    rfl
  by_cases h22 : (58 : Int) = c
  · subst h22
    rfl
  by_cases h23 : (45 : Int) = c
  · subst h23
    rfl
  by_cases h24 : (61 : Int) = c
  · subst h24
    rfl
  by_cases h25 : (53 : Int) = c
  · subst h25
    rfl
  exact absurd (show qlo c = -1 by unfold qlo; rw [if_neg h0, if_neg h1, if_neg h2, if_neg h3, if_neg h4, if_neg h5, if_neg h6, if_neg h7, if_neg h8, if_neg h9, if_neg h10, if_neg h11, if_neg h12, if_neg h13, if_neg h14, if_neg h15, if_neg h16, if_neg h17, if_neg h18, if_neg h19, if_neg h20, if_neg h21, if_neg h22, if_neg h23, if_neg h24, if_neg h25]) h
theorem s_letterCell (d : Nat) (S : zS) (l : Int) (h : 1 ≤ d) (hK : qK S) (hL : qLt (zm S)) : zD d 172 [vi l] S = some (.inl (some (vi (qlc l))), S) := by
  obtain ⟨e, rfl, -⟩ := qd h
  by_cases h1 : 0 ≤ l ∧ l < 26
  · rw [← qLt_lc hL l h1]
    simp (config := { maxSteps := 2000000 }) (disch := first | omega | (simp only [K_2 hK, qb_in, qkW, qmW, qnW, true_and, and_true, or_self, true_or, or_true, and_self]; done) | (simp only [K_2 hK, qb_in, qkW, qmW, qnW, true_and, and_true, or_self, true_or, or_true, and_self]; omega)) only [zD_172, b172_0, b172_4, b172_12, b172_20, b172_21, qcall_l, qcall_r, qretn_l, qJ_s, qJ_n, qV0, qEx, ↓qif0, ↓zchk_pos, ↓reduceIte, qput, qWW, qmW, qkW, qnW, K_2 hK, if_neg (show ¬ l < 0 by omega), if_pos h1.2]
  · have e0 : qlc l = 0 := by
      unfold qlc
      repeat' split
      all_goals first | omega | rfl
    rw [e0]
    by_cases h2 : l < 0
    · simp (config := { maxSteps := 2000000 }) (disch := first | omega | (simp only [K_2 hK, qb_in, qkW, qmW, qnW, true_and, and_true, or_self, true_or, or_true, and_self]; done) | (simp only [K_2 hK, qb_in, qkW, qmW, qnW, true_and, and_true, or_self, true_or, or_true, and_self]; omega)) only [zD_172, b172_0, b172_4, b172_12, b172_20, b172_21, qcall_l, qcall_r, qretn_l, qJ_s, qJ_n, qV0, qEx, ↓qif0, ↓zchk_pos, ↓reduceIte, qput, qWW, qmW, qkW, qnW, K_2 hK, if_pos h2]
    · simp (config := { maxSteps := 2000000 }) (disch := first | omega | (simp only [K_2 hK, qb_in, qkW, qmW, qnW, true_and, and_true, or_self, true_or, or_true, and_self]; done) | (simp only [K_2 hK, qb_in, qkW, qmW, qnW, true_and, and_true, or_self, true_or, or_true, and_self]; omega)) only [zD_172, b172_0, b172_4, b172_12, b172_20, b172_21, qcall_l, qcall_r, qretn_l, qJ_s, qJ_n, qV0, qEx, ↓qif0, ↓zchk_pos, ↓reduceIte, qput, qWW, qmW, qkW, qnW, K_2 hK, if_neg h2, if_neg (show ¬ l < 26 by omega)]
theorem s_letterOf (d : Nat) (S : zS) (c : Int) (h : 1 ≤ d) (hK : qK S) (hL : qLt (zm S)) : zD d 173 [vi c] S = some (.inl (some (vi (qlo c))), S) := by
  obtain ⟨e, rfl, -⟩ := qd h
  have hr := qlo_r c
  have hl : ∀ (f : Nat) (l : Int), 0 ≤ l → l + f = 26 → (∀ i, 0 ≤ i → i < l → qlc i ≠ c) → zF_173 e 2 [vi c, vi l] [] S = some (.inl (some (vi (qlo c))), S) := by
    intro f
    induction f with
    | zero =>
      intro l h1 h2 h3
      rw [b173_2]
      have h4 : qlo c = -1 := by
        by_cases h4 : qlo c = -1
        · exact h4
        · exact absurd (qlc_lo c h4) (h3 _ (by omega) (by omega))
      rw [h4]
      simp (config := { maxSteps := 2000000 }) (disch := first | omega | (simp only [K_2 hK, qb_in, qkW, qmW, qnW, true_and, and_true, or_self, true_or, or_true, and_self]; done) | (simp only [K_2 hK, qb_in, qkW, qmW, qnW, true_and, and_true, or_self, true_or, or_true, and_self]; omega)) only [b173_0, b173_10, b173_19, b173_21, b173_27, qcall_l, qcall_r, qretn_l, qJ_s, qJ_n, qV0, qEx, ↓qif0, ↓zchk_pos, ↓reduceIte, qput, qWW, qmW, qkW, qnW, K_2 hK, if_neg (show ¬ l < 26 by omega)]
    | succ f ih =>
      intro l h1 h2 h3
      rw [b173_2]
      have g1 := qLt_lc hL l (by omega)
      by_cases h5 : qlc l = c
      · have : qlo c = l := by rw [← h5, qlo_lc l (by omega)]
        rw [this]
        simp (config := { maxSteps := 2000000 }) (disch := first | omega | (simp only [K_2 hK, qb_in, qkW, qmW, qnW, true_and, and_true, or_self, true_or, or_true, and_self]; done) | (simp only [K_2 hK, qb_in, qkW, qmW, qnW, true_and, and_true, or_self, true_or, or_true, and_self]; omega)) only [b173_0, b173_10, b173_19, b173_21, b173_27, qcall_l, qcall_r, qretn_l, qJ_s, qJ_n, qV0, qEx, ↓qif0, ↓zchk_pos, ↓reduceIte, qput, qWW, qmW, qkW, qnW, K_2 hK, if_pos (show l < 26 by omega), g1, if_pos h5]
      · simp (config := { maxSteps := 2000000 }) (disch := first | omega | (simp only [K_2 hK, qb_in, qkW, qmW, qnW, true_and, and_true, or_self, true_or, or_true, and_self]; done) | (simp only [K_2 hK, qb_in, qkW, qmW, qnW, true_and, and_true, or_self, true_or, or_true, and_self]; omega)) only [b173_0, b173_10, b173_19, b173_21, b173_27, qcall_l, qcall_r, qretn_l, qJ_s, qJ_n, qV0, qEx, ↓qif0, ↓zchk_pos, ↓reduceIte, qput, qWW, qmW, qkW, qnW, K_2 hK, if_pos (show l < 26 by omega), g1, if_neg h5, q32]
        refine ih (l + 1) (by omega) (by omega) fun i h6 h7 => ?_
        by_cases e : i = l
        · rw [e]; exact h5
        · exact h3 i h6 (by omega)
  simp (config := { maxSteps := 2000000 }) (disch := first | omega | (simp only [qb_in, qkW, qmW, qnW, true_and, and_true, or_self, true_or, or_true, and_self]; done) | (simp only [qb_in, qkW, qmW, qnW, true_and, and_true, or_self, true_or, or_true, and_self]; omega)) only [zD_173, b173_0, b173_10, b173_19, b173_21, b173_27, qcall_l, qcall_r, qretn_l, qJ_s, qJ_n, qV0, qEx, ↓qif0, ↓zchk_pos, ↓reduceIte, qput, qWW, qmW, qkW, qnW]
  exact hl 26 0 (by omega) (by omega) fun i h1 h2 => by omega
theorem s_digitCell (d : Nat) (S : zS) (g : Int) (h : 2 ≤ d) (hg : 0 ≤ g ∧ g < 1000) (hK : qK S) (hL : qLt (zm S)) : zD d 174 [vi g] S = some (.inl (some (vi (qlc (if g = 0 then 9 else g - 1)))), S) := by
  obtain ⟨e, rfl, h1⟩ := qd h
  have gl := fun d l h => s_letterCell d S l h hK hL
  by_cases h0 : g = 0
  · rw [if_pos h0]
    simp (config := { maxSteps := 2000000 }) (disch := first | omega | (simp only [qb_in, qkW, qmW, qnW, true_and, and_true, or_self, true_or, or_true, and_self]; done) | (simp only [qb_in, qkW, qmW, qnW, true_and, and_true, or_self, true_or, or_true, and_self]; omega)) only [zD_174, b174_0, b174_4, b174_9, b174_12, b174_15, qcall_l, qcall_r, qretn_l, qJ_s, qJ_n, qV0, qEx, ↓qif0, ↓zchk_pos, ↓reduceIte, qput, qWW, qmW, qkW, qnW, gl, if_pos h0, q32]
  · rw [if_neg h0]
    simp (config := { maxSteps := 2000000 }) (disch := first | omega | (simp only [qb_in, qkW, qmW, qnW, true_and, and_true, or_self, true_or, or_true, and_self]; done) | (simp only [qb_in, qkW, qmW, qnW, true_and, and_true, or_self, true_or, or_true, and_self]; omega)) only [zD_174, b174_0, b174_4, b174_9, b174_12, b174_15, qcall_l, qcall_r, qretn_l, qJ_s, qJ_n, qV0, qEx, ↓qif0, ↓zchk_pos, ↓reduceIte, qput, qWW, qmW, qkW, qnW, gl, if_neg h0, q32]
def qdo (c : Int) : Int := if 9 < qlo c then -1 else if qlo c = 9 then 0 else if qlo c = -1 then -1 else qlo c + 1
theorem s_digitOf (d : Nat) (S : zS) (c : Int) (h : 2 ≤ d) (hK : qK S) (hL : qLt (zm S)) : zD d 175 [vi c] S = some (.inl (some (vi (qdo c))), S) := by
  obtain ⟨e, rfl, h1⟩ := qd h
  have gl := fun d c h => s_letterOf d S c h hK hL
  have hr := qlo_r c
  simp (config := { maxSteps := 2000000 }) (disch := first | omega | (simp only [qb_in, qkW, qmW, qnW, true_and, and_true, or_self, true_or, or_true, and_self]; done) | (simp only [qb_in, qkW, qmW, qnW, true_and, and_true, or_self, true_or, or_true, and_self]; omega)) only [zD_175, b175_0, b175_4, b175_11, b175_15, b175_21, b175_25, b175_30, b175_34, b175_37, qcall_l, qcall_r, qretn_l, qJ_s, qJ_n, qV0, qEx, ↓qif0, ↓zchk_pos, ↓reduceIte, qput, qWW, qmW, qkW, qnW, gl, q32]
  unfold qdo
  repeat' split
  all_goals first | rfl | omega
abbrev qmkc (c : Int) : Prop := c = 2 ∨ c = 6 ∨ c = 38 ∨ c = 50
abbrev qsgc (c : Int) : Prop := c = 40 ∨ c = 32 ∨ c = 48 ∨ c = 60 ∨ c = 36
abbrev qfre (c : Int) : Prop := 0 < c ∧ c < 64 ∧ ¬ qsgc c ∧ ¬ qmkc c
theorem s_isMarkCell (d : Nat) (S : zS) (c : Int) (h : 1 ≤ d) : zD d 176 [vi c] S = some (.inl (some (vi (qb (qmkc c)))), S) := by
  obtain ⟨e, rfl, -⟩ := qd h
  simp (config := { maxSteps := 2000000 }) (disch := first | omega | (simp only [qb_in, qkW, qmW, qnW, true_and, and_true, or_self, true_or, or_true, and_self]; done) | (simp only [qb_in, qkW, qmW, qnW, true_and, and_true, or_self, true_or, or_true, and_self]; omega)) only [zD_176, b176_0, b176_5, b176_11, b176_17, b176_23, b176_27, b176_28, qcall_l, qcall_r, qretn_l, qJ_s, qJ_n, qV0, qEx, ↓qif0, ↓zchk_pos, ↓reduceIte, qput, qWW, qmW, qkW, qnW]
  unfold qb
  repeat' split
  all_goals first | rfl | (exfalso; omega)
theorem s_isSignCell (d : Nat) (S : zS) (c : Int) (h : 1 ≤ d) : zD d 177 [vi c] S = some (.inl (some (vi (qb (qsgc c)))), S) := by
  obtain ⟨e, rfl, -⟩ := qd h
  simp (config := { maxSteps := 2000000 }) (disch := first | omega | (simp only [qb_in, qkW, qmW, qnW, true_and, and_true, or_self, true_or, or_true, and_self]; done) | (simp only [qb_in, qkW, qmW, qnW, true_and, and_true, or_self, true_or, or_true, and_self]; omega)) only [zD_177, b177_0, b177_6, b177_12, b177_18, b177_24, b177_30, b177_34, b177_35, qcall_l, qcall_r, qretn_l, qJ_s, qJ_n, qV0, qEx, ↓qif0, ↓zchk_pos, ↓reduceIte, qput, qWW, qmW, qkW, qnW]
  unfold qb
  repeat' split
  all_goals first | rfl | (exfalso; omega)
theorem s_canBeContracted (d : Nat) (S : zS) (c : Int) (h : 2 ≤ d) : zD d 178 [vi c] S = some (.inl (some (vi (qb (qfre c)))), S) := by
  obtain ⟨e, rfl, h1⟩ := qd h
  simp (config := { maxSteps := 2000000 }) (disch := first | omega | (simp only [qb_in, qkW, qmW, qnW, true_and, and_true, or_self, true_or, or_true, and_self]; done) | (simp only [qb_in, qkW, qmW, qnW, true_and, and_true, or_self, true_or, or_true, and_self]; omega)) only [zD_178, b178_0, b178_4, b178_10, b178_14, b178_17, b178_21, b178_24, b178_28, b178_29, qcall_l, qcall_r, qretn_l, qJ_s, qJ_n, qV0, qEx, ↓qif0, ↓zchk_pos, ↓reduceIte, qput, qWW, qmW, qkW, qnW, s_isMarkCell, s_isSignCell]
  unfold qb
  repeat' split
  all_goals first | rfl | (exfalso; omega)
theorem r_cellOf (d : Nat) (S : zS) (c : Int) (h : 1 ≤ d) (hc : qsm c) : zD d 190 [vi c] S = some (.inl (some (vi (qlc (c - 97)))), S) := by
  obtain ⟨e, rfl, -⟩ := qd h
  obtain ⟨l, rfl⟩ : ∃ l, c = l + 97 := ⟨c - 97, by omega⟩
  rcases qlc_cases (l := l) (by omega) with rfl | rfl | rfl | rfl | rfl | rfl | rfl | rfl | rfl | rfl | rfl | rfl | rfl | rfl | rfl | rfl | rfl | rfl | rfl | rfl | rfl | rfl | rfl | rfl | rfl | rfl
  all_goals
    simp (config := { maxSteps := 2000000 }) (disch := first | omega | (simp only [qb_in, qkW, qmW, qnW, true_and, and_true, or_self, true_or, or_true, and_self]; done) | (simp only [qb_in, qkW, qmW, qnW, true_and, and_true, or_self, true_or, or_true, and_self]; omega)) only [zD_190, b190_0, b190_116, b190_118, b190_120, b190_123, b190_126, b190_129, b190_132, b190_135, b190_138, b190_141, b190_144, b190_146, b190_149, b190_152, b190_155, b190_158, b190_161, b190_164, b190_167, b190_170, b190_173, b190_176, b190_179, b190_182, b190_185, b190_188, i190, w190_1, qcall_l, qcall_r, qretn_l, qJ_s, qJ_n, qV0, qEx, ↓qif0, ↓zchk_pos, ↓reduceIte, qput, qWW, qmW, qkW, qnW, Int.reduceAdd, Int.reduceEq]
    rfl
theorem r_cellOfDigit (d : Nat) (S : zS) (g : Int) (h : 2 ≤ d) (hg : 0 ≤ g ∧ g ≤ 9) : zD d 191 [vi g] S = some (.inl (some (vi (qlc (if g = 0 then 9 else g - 1)))), S) := by
  obtain ⟨e, rfl, h1⟩ := qd h
  by_cases h0 : g = 0
  · rw [if_pos h0]
    simp (config := { maxSteps := 2000000 }) (disch := first | omega | (simp only [qb_in, qkW, qmW, qnW, true_and, and_true, or_self, true_or, or_true, and_self]; done) | (simp only [qb_in, qkW, qmW, qnW, true_and, and_true, or_self, true_or, or_true, and_self]; omega)) only [zD_191, b191_0, b191_4, b191_9, b191_16, b191_19, qcall_l, qcall_r, qretn_l, qJ_s, qJ_n, qV0, qEx, ↓qif0, ↓zchk_pos, ↓reduceIte, qput, qWW, qmW, qkW, qnW, r_cellOf, if_pos h0, Int.reduceSub]
  · rw [if_neg h0]
    have e1 : (97 + g - 1) % 65536 = 96 + g := by omega
    have e2 : 96 + g - 97 = g - 1 := by omega
    simp (config := { maxSteps := 2000000 }) (disch := first | omega | (simp only [qb_in, qkW, qmW, qnW, true_and, and_true, or_self, true_or, or_true, and_self]; done) | (simp only [qb_in, qkW, qmW, qnW, true_and, and_true, or_self, true_or, or_true, and_self]; omega)) only [zD_191, b191_0, b191_4, b191_9, b191_16, b191_19, qcall_l, qcall_r, qretn_l, qJ_s, qJ_n, qV0, qEx, ↓qif0, ↓zchk_pos, ↓reduceIte, qput, qWW, qmW, qkW, qnW, r_cellOf, if_neg h0, q32, e1, e2]
def qlv (c : Int) : Int := if qlo c = -1 then 0 else qlo c + 97
theorem r_letterOf (d : Nat) (S : zS) (c : Int) (h : 2 ≤ d) : zD d 192 [vi c] S = some (.inl (some (vi (qlv c))), S) := by
  obtain ⟨e, rfl, h1⟩ := qd h
  have cl := fun l (hl : 0 ≤ l ∧ l < 26) => r_cellOf e S (l + 97) h1 (by omega)
  have hl : ∀ (f : Nat) (l v : Int), 0 ≤ l → l + f = 26 → (v = if qlo c = -1 ∨ l ≤ qlo c then 0 else qlo c + 97) → zF_192 e 5 [vi c, vi v, vi (l + 97)] [] S = some (.inl (some (vi (qlv c))), S) := by
    intro f
    have hr := qlo_r c
    induction f with
    | zero =>
      intro l v h1 h2 h3
      rw [b192_5]
      have hv : v = qlv c := by
        unfold qlv
        rw [h3]
        by_cases h4 : qlo c = -1
        · rw [if_pos (Or.inl h4), if_pos h4]
        · rw [if_neg (by omega), if_neg h4]
      have hv2 : 0 ≤ v ∧ v < 65536 := by
        rw [h3]
        split <;> omega
      simp (config := { maxSteps := 2000000 }) (disch := first | omega | (simp only [qb_in, qkW, qmW, qnW, true_and, and_true, or_self, true_or, or_true, and_self]; done) | (simp only [qb_in, qkW, qmW, qnW, true_and, and_true, or_self, true_or, or_true, and_self]; omega)) only [b192_0, b192_11, b192_15, b192_19, b192_23, b192_24, b192_33, qcall_l, qcall_r, qretn_l, qJ_s, qJ_n, qV0, qEx, ↓qif0, ↓zchk_pos, ↓reduceIte, qput, qWW, qmW, qkW, qnW, if_pos (show 122 < l + 97 by omega)]
      rw [hv]
    | succ f ih =>
      intro l v h1 h2 h3
      rw [b192_5]
      have g1 := cl l (by omega)
      rw [show l + 97 - 97 = l by omega] at g1
      have e1 : (l + 97 + 1) % 65536 = l + 1 + 97 := by omega
      by_cases h5 : qlc l = c
      · have h8 : qlo c = l := by rw [← h5, qlo_lc l (by omega)]
        simp (config := { maxSteps := 2000000 }) (disch := first | omega | (simp only [qb_in, qkW, qmW, qnW, true_and, and_true, or_self, true_or, or_true, and_self]; done) | (simp only [qb_in, qkW, qmW, qnW, true_and, and_true, or_self, true_or, or_true, and_self]; omega)) only [b192_0, b192_11, b192_15, b192_19, b192_23, b192_24, b192_33, qcall_l, qcall_r, qretn_l, qJ_s, qJ_n, qV0, qEx, ↓qif0, ↓zchk_pos, ↓reduceIte, qput, qWW, qmW, qkW, qnW, if_neg (show ¬ 122 < l + 97 by omega), g1, q32, e1, if_pos h5]
        exact ih (l + 1) (l + 97) (by omega) (by omega) (by rw [if_neg (by omega)]; omega)
      · have h8 : qlo c ≠ l := fun q => h5 (by
          have := qlc_lo c (by omega)
          rw [q] at this
          exact this)
        simp (config := { maxSteps := 2000000 }) (disch := first | omega | (simp only [qb_in, qkW, qmW, qnW, true_and, and_true, or_self, true_or, or_true, and_self]; done) | (simp only [qb_in, qkW, qmW, qnW, true_and, and_true, or_self, true_or, or_true, and_self]; omega)) only [b192_0, b192_11, b192_15, b192_19, b192_23, b192_24, b192_33, qcall_l, qcall_r, qretn_l, qJ_s, qJ_n, qV0, qEx, ↓qif0, ↓zchk_pos, ↓reduceIte, qput, qWW, qmW, qkW, qnW, if_neg (show ¬ 122 < l + 97 by omega), g1, q32, e1, if_neg h5]
        refine ih (l + 1) v (by omega) (by omega) ?_
        rw [h3]
        by_cases h6 : qlo c = -1 ∨ l ≤ qlo c
        · rw [if_pos h6, if_pos (by omega)]
        · rw [if_neg h6, if_neg (by omega)]
  simp (config := { maxSteps := 2000000 }) (disch := first | omega | (simp only [qb_in, qkW, qmW, qnW, true_and, and_true, or_self, true_or, or_true, and_self]; done) | (simp only [qb_in, qkW, qmW, qnW, true_and, and_true, or_self, true_or, or_true, and_self]; omega)) only [zD_192, b192_0, b192_11, b192_15, b192_19, b192_23, b192_24, b192_33, qcall_l, qcall_r, qretn_l, qJ_s, qJ_n, qV0, qEx, ↓qif0, ↓zchk_pos, ↓reduceIte, qput, qWW, qmW, qkW, qnW]
  exact hl 26 0 0 (by omega) (by omega) (by
    have hr := qlo_r c
    rw [if_pos (by omega)])
def qmo (c : Int) : Int := if c = 2 then 44 else if c = 6 then 59 else if c = 38 then 63 else if c = 50 then 46 else 0
theorem r_markOf (d : Nat) (S : zS) (c : Int) (h : 1 ≤ d) : zD d 194 [vi c] S = some (.inl (some (vi (qmo c))), S) := by
  obtain ⟨e, rfl, -⟩ := qd h
  simp (config := { maxSteps := 2000000 }) (disch := first | omega | (simp only [qb_in, qkW, qmW, qnW, true_and, and_true, or_self, true_or, or_true, and_self]; done) | (simp only [qb_in, qkW, qmW, qnW, true_and, and_true, or_self, true_or, or_true, and_self]; omega)) only [zD_194, b194_0, b194_5, b194_10, b194_16, b194_21, b194_27, b194_32, b194_38, b194_43, b194_44, qcall_l, qcall_r, qretn_l, qJ_s, qJ_n, qV0, qEx, ↓qif0, ↓zchk_pos, ↓reduceIte, qput, qWW, qmW, qkW, qnW]
  unfold qmo
  repeat' split
  all_goals first | rfl | (exfalso; omega)
theorem r_isFree (d : Nat) (S : zS) (c : Int) (h : 2 ≤ d) : zD d 195 [vi c] S = some (.inl (some (vi (qb (qfre c)))), S) := by
  obtain ⟨e, rfl, h1⟩ := qd h
  simp (config := { maxSteps := 2000000 }) (disch := first | omega | (simp only [qb_in, qkW, qmW, qnW, true_and, and_true, or_self, true_or, or_true, and_self]; done) | (simp only [qb_in, qkW, qmW, qnW, true_and, and_true, or_self, true_or, or_true, and_self]; omega)) only [zD_195, b195_0, b195_6, b195_12, b195_18, b195_24, b195_30, b195_34, b195_35, b195_43, b195_46, b195_50, b195_54, b195_57, b195_61, b195_62, qcall_l, qcall_r, qretn_l, qJ_s, qJ_n, qV0, qEx, ↓qif0, ↓zchk_pos, ↓reduceIte, qput, qWW, qmW, qkW, qnW, r_in, r_markOf]
  unfold qb qmo
  repeat' split
  all_goals first | rfl | (exfalso; omega)
theorem r_cellsOf (d : Nat) (S : zS) (c : Int) (h : 1 ≤ d) : zD d 214 [vi c] S = some (.inl (some (vi (if c = 0 then 1 else 2))), S) := by
  obtain ⟨e, rfl, -⟩ := qd h
  simp (config := { maxSteps := 2000000 }) (disch := first | omega | (simp only [qb_in, qkW, qmW, qnW, true_and, and_true, or_self, true_or, or_true, and_self]; done) | (simp only [qb_in, qkW, qmW, qnW, true_and, and_true, or_self, true_or, or_true, and_self]; omega)) only [zD_214, m214_0, b214_4, b214_8, b214_9, qcall_l, qcall_r, qretn_l, qJ_s, qJ_n, qV0, qEx, ↓qif0, ↓zchk_pos, ↓reduceIte, qput, qWW, qmW, qkW, qnW]
theorem r_isGrade (d : Nat) (S : zS) (c : Int) (h : 2 ≤ d) : zD d 226 [vi c] S = some (.inl (some (vi (qb (0 ≤ c ∧ c ≤ 3)))), S) := by
  obtain ⟨e, rfl, h1⟩ := qd h
  simp (config := { maxSteps := 2000000 }) (disch := first | omega | (simp only [qb_in, qkW, qmW, qnW, true_and, and_true, or_self, true_or, or_true, and_self]; done) | (simp only [qb_in, qkW, qmW, qnW, true_and, and_true, or_self, true_or, or_true, and_self]; omega)) only [zD_226, b226_0, b226_6, qcall_l, qcall_r, qretn_l, qJ_s, qJ_n, qV0, qEx, ↓qif0, ↓zchk_pos, ↓reduceIte, qput, qWW, qmW, qkW, qnW, r_in]
