/-! The class spells a word from the tape. -/
def qSp (m : Int → Int → Int) (a b cnt st dg bg mk : Int) (g : Int → Int) : Int → Int → Int := fun x i =>
  if x = a then (if i = 1 then cnt else if i = 2 then st else if i = 3 then dg else if i = 4 then bg else if i = 5 then mk else m a i) else if x = b ∧ 0 ≤ i ∧ i < cnt then g i else m x i
theorem qSp_o (m : Int → Int → Int) (a b cnt st dg bg mk : Int) (g : Int → Int) (x : Int) (h1 : x ≠ a) (h2 : x ≠ b) : qSp m a b cnt st dg bg mk g x = m x := by
  funext i
  unfold qSp
  rw [if_neg h1, if_neg fun h => h2 h.1]
theorem qSp_0 (m : Int → Int → Int) (a b cnt st dg bg mk : Int) (g : Int → Int) : qSp m a b cnt st dg bg mk g a 0 = m a 0 := by
  unfold qSp
  rw [if_pos rfl, if_neg (by decide), if_neg (by decide), if_neg (by decide), if_neg (by decide), if_neg (by decide)]
theorem qSp_1 (m : Int → Int → Int) (a b cnt st dg bg mk : Int) (g : Int → Int) : qSp m a b cnt st dg bg mk g a 1 = cnt := by
  unfold qSp
  rw [if_pos rfl, if_pos rfl]
theorem qSp_2 (m : Int → Int → Int) (a b cnt st dg bg mk : Int) (g : Int → Int) : qSp m a b cnt st dg bg mk g a 2 = st := by
  unfold qSp
  rw [if_pos rfl, if_neg (by decide), if_pos rfl]
theorem qSp_3 (m : Int → Int → Int) (a b cnt st dg bg mk : Int) (g : Int → Int) : qSp m a b cnt st dg bg mk g a 3 = dg := by
  unfold qSp
  rw [if_pos rfl, if_neg (by decide), if_neg (by decide), if_pos rfl]
theorem qSp_4 (m : Int → Int → Int) (a b cnt st dg bg mk : Int) (g : Int → Int) : qSp m a b cnt st dg bg mk g a 4 = bg := by
  unfold qSp
  rw [if_pos rfl, if_neg (by decide), if_neg (by decide), if_neg (by decide), if_pos rfl]
theorem qSp_5 (m : Int → Int → Int) (a b cnt st dg bg mk : Int) (g : Int → Int) : qSp m a b cnt st dg bg mk g a 5 = mk := by
  unfold qSp
  rw [if_pos rfl, if_neg (by decide), if_neg (by decide), if_neg (by decide), if_neg (by decide), if_pos rfl]
theorem qSp_g (m : Int → Int → Int) (a b cnt st dg bg mk : Int) (g : Int → Int) (i : Int) (h : b ≠ a) (hi : 0 ≤ i ∧ i < cnt) : qSp m a b cnt st dg bg mk g b i = g i := by
  unfold qSp
  rw [if_neg h, if_pos ⟨rfl, hi⟩]
theorem qSp_u1 (m : Int → Int → Int) (a b cnt st dg bg mk v : Int) (g : Int → Int) (h : b ≠ a) (h0 : 0 ≤ cnt) (hv : v = g cnt) : qu (qu (qSp m a b cnt st dg bg mk g) b cnt v) a 1 (cnt + 1) = qSp m a b (cnt + 1) st dg bg mk g := by
  subst hv
  funext x i
  unfold qu qSp
  by_cases hx : x = a
  · subst hx
    by_cases h1 : i = 1
    · simp only [h1, ↓reduceIte]
    · simp only [h1, ↓reduceIte, if_neg (Ne.symm h)]
  · by_cases hb : x = b
    · subst hb
      simp only [if_neg hx, ↓reduceIte, true_and]
      by_cases h1 : i = cnt
      · rw [if_pos h1, if_pos (by omega), h1]
      · rw [if_neg h1]
        by_cases h2 : 0 ≤ i ∧ i < cnt
        · rw [if_pos h2, if_pos (by omega)]
        · rw [if_neg h2, if_neg (by omega)]
    · simp only [if_neg hx, if_neg hb, if_neg (fun q : x = b ∧ _ => hb q.1)]
theorem qSp_u2 (m : Int → Int → Int) (a b cnt st dg bg mk v : Int) (g : Int → Int) : qu (qSp m a b cnt st dg bg mk g) a 2 v = qSp m a b cnt v dg bg mk g := by
  funext x i
  unfold qu qSp
  by_cases hx : x = a
  · by_cases h2 : i = 2
    · simp only [if_pos hx, h2, ↓reduceIte, Int.reduceEq]
    · simp only [if_pos hx, if_neg h2]
  · simp only [if_neg hx]
theorem qSp_u3 (m : Int → Int → Int) (a b cnt st dg bg mk v : Int) (g : Int → Int) : qu (qSp m a b cnt st dg bg mk g) a 3 v = qSp m a b cnt st v bg mk g := by
  funext x i
  unfold qu qSp
  by_cases hx : x = a
  · by_cases h2 : i = 3
    · simp only [if_pos hx, h2, ↓reduceIte, Int.reduceEq]
    · simp only [if_pos hx, if_neg h2]
  · simp only [if_neg hx]
theorem qSp_u4 (m : Int → Int → Int) (a b cnt st dg bg mk v : Int) (g : Int → Int) : qu (qSp m a b cnt st dg bg mk g) a 4 v = qSp m a b cnt st dg v mk g := by
  funext x i
  unfold qu qSp
  by_cases hx : x = a
  · by_cases h2 : i = 4
    · simp only [if_pos hx, h2, ↓reduceIte, Int.reduceEq]
    · simp only [if_pos hx, if_neg h2]
  · simp only [if_neg hx]
theorem qSp_u5 (m : Int → Int → Int) (a b cnt st dg bg mk v : Int) (g : Int → Int) : qu (qSp m a b cnt st dg bg mk g) a 5 v = qSp m a b cnt st dg bg v g := by
  funext x i
  unfold qu qSp
  by_cases hx : x = a
  · by_cases h2 : i = 5
    · simp only [if_pos hx, h2, ↓reduceIte, Int.reduceEq]
    · simp only [if_pos hx, if_neg h2]
  · simp only [if_neg hx]
theorem s_spClear (d : Nat) (T : zS) (a b : Int) (g : Int → Int) (h : 1 ≤ d) (k1 : zk T a = (28, 0)) : zD d 82 [vr a] T = some (.inl none, qW T (qSp (zm T) a b 0 0 0 0 0 g)) := by
  obtain ⟨e, rfl, -⟩ := qd h
  simp (config := { maxSteps := 2000000 }) (disch := first | omega | (simp only [k1, qb_in, qkW, qmW, qnW, true_and, and_true, or_self, true_or, or_true, and_self]; done) | (simp only [k1, qb_in, qkW, qmW, qnW, true_and, and_true, or_self, true_or, or_true, and_self]; omega)) only [zD_82, b82_0, b82_16, qcall_l, qcall_r, qretn_l, qJ_s, qJ_n, qV0, qEx, ↓qif0, ↓zchk_pos, ↓reduceIte, qput, qWW, qmW, qkW, qnW, k1]
  congr 2
  unfold qW
  congr 2
  funext x i
  unfold qu qSp
  by_cases hx : x = a
  · simp only [if_pos hx]
    repeat' split
    all_goals first | rfl | (exfalso; omega) | (subst hx; rfl) | (rw [hx])
  · simp only [if_neg hx]
    rw [if_neg (by omega)]
theorem s_spAppend (d : Nat) (T : zS) (a b v : Int) (h : 1 ≤ d) (k1 : zk T a = (28, 0)) (p1 : zm T a 0 = b) (k2 : zk T b = (0, 10)) (h0 : 0 ≤ zm T a 1) : zD d 83 [vr a, vi v] T =
    if zm T a 1 < 10 then some (.inl (some (vi 1)), qW T (qu (qu (zm T) b (zm T a 1) v) a 1 (zm T a 1 + 1))) else some (.inl (some (vi 0)), T) := by
  obtain ⟨e, rfl, -⟩ := qd h
  have hab : a ≠ b := fun q => by rw [q, k2] at k1; exact absurd k1 (by decide)
  have e1 : qu (zm T) b (zm T a 1) v a 1 = zm T a 1 := by rw [qu_o _ _ _ _ _ hab]
  by_cases hl : zm T a 1 < 10
  · rw [if_pos hl]
    simp (config := { maxSteps := 2000000 }) (disch := first | omega | (simp only [k1, p1, k2, qb_in, qkW, qmW, qnW, true_and, and_true, or_self, true_or, or_true, and_self]; done) | (simp only [k1, p1, k2, qb_in, qkW, qmW, qnW, true_and, and_true, or_self, true_or, or_true, and_self]; omega)) only [zD_83, b83_0, b83_12, b83_14, b83_30, qcall_l, qcall_r, qretn_l, qJ_s, qJ_n, qV0, qEx, ↓qif0, ↓zchk_pos, ↓reduceIte, qput, qWW, qmW, qkW, qnW, k1, p1, k2, if_pos hl, e1, q32]
  · rw [if_neg hl]
    simp (config := { maxSteps := 2000000 }) (disch := first | omega | (simp only [k1, p1, k2, qb_in, qkW, qmW, qnW, true_and, and_true, or_self, true_or, or_true, and_self]; done) | (simp only [k1, p1, k2, qb_in, qkW, qmW, qnW, true_and, and_true, or_self, true_or, or_true, and_self]; omega)) only [zD_83, b83_0, b83_12, b83_14, b83_30, qcall_l, qcall_r, qretn_l, qJ_s, qJ_n, qV0, qEx, ↓qif0, ↓zchk_pos, ↓reduceIte, qput, qWW, qmW, qkW, qnW, k1, p1, k2, if_neg hl]
theorem qkd_s {c : Int} (h : qsm c) : qkd c = 2 := if_pos h
theorem qkd_b {c : Int} (h : qbg c) : qkd c = 3 := by
  unfold qkd
  rw [if_neg (by omega), if_pos h]
theorem qkd_d {c : Int} (h : qdg c) : qkd c = 4 := by
  unfold qkd
  rw [if_neg (by omega), if_neg (by omega), if_pos h]
theorem qkd_p {c : Int} (h : qpt c) : qkd c = 6 := by
  unfold qkd
  rw [if_neg (by omega), if_neg (by omega), if_neg (by omega), if_pos h]
theorem qkd_m {c : Int} (h : qmk c) : qkd c = 5 := by
  unfold qkd
  rw [if_neg (by omega), if_neg (by omega), if_neg (by omega), if_neg (by omega), if_neg (by omega), if_pos h]
theorem qkd_42 : qkd 42 = 1 := by decide
