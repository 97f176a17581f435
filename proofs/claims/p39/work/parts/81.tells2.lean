/-! The reference tells the tree in the class's cells. -/
theorem r_cellOfJoin (d : Nat) (S : zS) (o fld : Int) (h : 1 ≤ d) (ho : qjn o) : zD d 245 [vi o, vi fld] S = some (.inl (some (vi (if o = 94 ∧ fld ≠ 0 then 24 else qcs o))), S) := by
  obtain ⟨e, rfl, -⟩ := qd h
  by_cases f0 : fld = 0
  · rw [if_neg (show ¬ (o = 94 ∧ fld ≠ 0) from fun z => z.2 f0)]
    rcases ho with rfl | rfl | rfl | rfl | rfl
    all_goals
      simp (config := { maxSteps := 2000000 }) (disch := first | omega | (simp only [qb_in, qkW, qmW, qnW, true_and, and_true, or_self, true_or, or_true, and_self]; done) | (simp only [qb_in, qkW, qmW, qnW, true_and, and_true, or_self, true_or, or_true, and_self]; omega)) only [zD_245, b245_0, b245_6, b245_11, b245_17, b245_22, b245_28, b245_33, b245_39, b245_44, b245_48, b245_53, b245_55, qcall_l, qcall_r, qretn_l, qJ_s, qJ_n, qV0, qEx, ↓qif0, ↓zchk_pos, ↓reduceIte, qput, qWW, qmW, qkW, qnW, Int.reduceEq, if_pos f0]
      rfl
  · by_cases h4 : o = 94
    · rw [if_pos (show o = 94 ∧ fld ≠ 0 from ⟨h4, f0⟩), h4]
      simp (config := { maxSteps := 2000000 }) (disch := first | omega | (simp only [qb_in, qkW, qmW, qnW, true_and, and_true, or_self, true_or, or_true, and_self]; done) | (simp only [qb_in, qkW, qmW, qnW, true_and, and_true, or_self, true_or, or_true, and_self]; omega)) only [zD_245, b245_0, b245_6, b245_11, b245_17, b245_22, b245_28, b245_33, b245_39, b245_44, b245_48, b245_53, b245_55, qcall_l, qcall_r, qretn_l, qJ_s, qJ_n, qV0, qEx, ↓qif0, ↓zchk_pos, ↓reduceIte, qput, qWW, qmW, qkW, qnW, Int.reduceEq, if_neg f0]
    · rw [if_neg (show ¬ (o = 94 ∧ fld ≠ 0) from fun z => h4 z.1)]
      rcases ho with rfl | rfl | rfl | rfl | rfl
      · simp (config := { maxSteps := 2000000 }) (disch := first | omega | (simp only [qb_in, qkW, qmW, qnW, true_and, and_true, or_self, true_or, or_true, and_self]; done) | (simp only [qb_in, qkW, qmW, qnW, true_and, and_true, or_self, true_or, or_true, and_self]; omega)) only [zD_245, b245_0, b245_6, b245_11, b245_17, b245_22, b245_28, b245_33, b245_39, b245_44, b245_48, b245_53, b245_55, qcall_l, qcall_r, qretn_l, qJ_s, qJ_n, qV0, qEx, ↓qif0, ↓zchk_pos, ↓reduceIte, qput, qWW, qmW, qkW, qnW, Int.reduceEq]
        rfl
      · simp (config := { maxSteps := 2000000 }) (disch := first | omega | (simp only [qb_in, qkW, qmW, qnW, true_and, and_true, or_self, true_or, or_true, and_self]; done) | (simp only [qb_in, qkW, qmW, qnW, true_and, and_true, or_self, true_or, or_true, and_self]; omega)) only [zD_245, b245_0, b245_6, b245_11, b245_17, b245_22, b245_28, b245_33, b245_39, b245_44, b245_48, b245_53, b245_55, qcall_l, qcall_r, qretn_l, qJ_s, qJ_n, qV0, qEx, ↓qif0, ↓zchk_pos, ↓reduceIte, qput, qWW, qmW, qkW, qnW, Int.reduceEq]
        rfl
      · simp (config := { maxSteps := 2000000 }) (disch := first | omega | (simp only [qb_in, qkW, qmW, qnW, true_and, and_true, or_self, true_or, or_true, and_self]; done) | (simp only [qb_in, qkW, qmW, qnW, true_and, and_true, or_self, true_or, or_true, and_self]; omega)) only [zD_245, b245_0, b245_6, b245_11, b245_17, b245_22, b245_28, b245_33, b245_39, b245_44, b245_48, b245_53, b245_55, qcall_l, qcall_r, qretn_l, qJ_s, qJ_n, qV0, qEx, ↓qif0, ↓zchk_pos, ↓reduceIte, qput, qWW, qmW, qkW, qnW, Int.reduceEq]
        rfl
      · simp (config := { maxSteps := 2000000 }) (disch := first | omega | (simp only [qb_in, qkW, qmW, qnW, true_and, and_true, or_self, true_or, or_true, and_self]; done) | (simp only [qb_in, qkW, qmW, qnW, true_and, and_true, or_self, true_or, or_true, and_self]; omega)) only [zD_245, b245_0, b245_6, b245_11, b245_17, b245_22, b245_28, b245_33, b245_39, b245_44, b245_48, b245_53, b245_55, qcall_l, qcall_r, qretn_l, qJ_s, qJ_n, qV0, qEx, ↓qif0, ↓zchk_pos, ↓reduceIte, qput, qWW, qmW, qkW, qnW, Int.reduceEq]
        rfl
      · exact absurd rfl h4
def qdn (y : Int → Int) (p : Int) : Nat → List Int
  | 0 => []
  | k + 1 => qdn y p k ++ [qdc (y (p + k) - 48)]
theorem qdn_l (y : Int → Int) (p : Int) : ∀ k : Nat, (qdn y p k).length = k := by
  intro k
  induction k with
  | zero => rfl
  | succ k ih => rw [qdn, List.length_append, ih]; rfl
theorem qdl_n (y : Int → Int) (p : Int) (k : Nat) (hk : 1 ≤ k ∧ k ≤ 4) (h : ∀ j : Int, 0 ≤ j → j < k → qdg (y (p + j))) : qdl (qnv y p k) = qdn y p k := by
  have h0 := h 0 (by decide) (by omega)
  have a0 : p + ((0 : Nat) : Int) = p + 0 := rfl
  have a1 : p + ((0 + 1 : Nat) : Int) = p + 1 := rfl
  have a2 : p + ((0 + 1 + 1 : Nat) : Int) = p + 2 := rfl
  have a3 : p + ((0 + 1 + 1 + 1 : Nat) : Int) = p + 3 := rfl
  by_cases k1 : k = 1
  · subst k1
    simp only [qnv, qdn, a0, List.nil_append]
    unfold qdl
    rw [if_pos (by omega), show (10 * 1 + (y (p + 0) - 48)) % 10 = y (p + 0) - 48 by omega]
  · have h1 := h 1 (by decide) (by omega)
    by_cases k2 : k = 2
    · subst k2
      simp only [qnv, qdn, a0, a1, List.nil_append, List.cons_append]
      unfold qdl
      rw [if_neg (by omega), if_pos (by omega), show (10 * (10 * 1 + (y (p + 0) - 48)) + (y (p + 1) - 48)) / 10 % 10 = y (p + 0) - 48 by omega, show (10 * (10 * 1 + (y (p + 0) - 48)) + (y (p + 1) - 48)) % 10 = y (p + 1) - 48 by omega]
    · have h2 := h 2 (by decide) (by omega)
      by_cases k3 : k = 3
      · subst k3
        simp only [qnv, qdn, a0, a1, a2, List.nil_append, List.cons_append]
        unfold qdl
        rw [if_neg (by omega), if_neg (by omega), if_pos (by omega), show (10 * (10 * (10 * 1 + (y (p + 0) - 48)) + (y (p + 1) - 48)) + (y (p + 2) - 48)) / 100 % 10 = y (p + 0) - 48 by omega, show (10 * (10 * (10 * 1 + (y (p + 0) - 48)) + (y (p + 1) - 48)) + (y (p + 2) - 48)) / 10 % 10 = y (p + 1) - 48 by omega, show (10 * (10 * (10 * 1 + (y (p + 0) - 48)) + (y (p + 1) - 48)) + (y (p + 2) - 48)) % 10 = y (p + 2) - 48 by omega]
      · have h3 := h 3 (by decide) (by omega)
        have k4 : k = 4 := by omega
        subst k4
        simp only [qnv, qdn, a0, a1, a2, a3, List.nil_append, List.cons_append]
        unfold qdl
        rw [if_neg (by omega), if_neg (by omega), if_neg (by omega), show (10 * (10 * (10 * (10 * 1 + (y (p + 0) - 48)) + (y (p + 1) - 48)) + (y (p + 2) - 48)) + (y (p + 3) - 48)) / 1000 % 10 = y (p + 0) - 48 by omega, show (10 * (10 * (10 * (10 * 1 + (y (p + 0) - 48)) + (y (p + 1) - 48)) + (y (p + 2) - 48)) + (y (p + 3) - 48)) / 100 % 10 = y (p + 1) - 48 by omega, show (10 * (10 * (10 * (10 * 1 + (y (p + 0) - 48)) + (y (p + 1) - 48)) + (y (p + 2) - 48)) + (y (p + 3) - 48)) / 10 % 10 = y (p + 2) - 48 by omega, show (10 * (10 * (10 * (10 * 1 + (y (p + 0) - 48)) + (y (p + 1) - 48)) + (y (p + 2) - 48)) + (y (p + 3) - 48)) % 10 = y (p + 3) - 48 by omega]
def qpk (b c : Int) : List Int := if b = 0 then [c] else [-29, c, -36]
theorem qrr_z {m m' : Int → Int → Int} {t : Int → Int} {n : Int} (f : qFz m m') {x : qTree} (hw : qwf x) {i : Int} (hx : qrr m t n x i) : qrr m' t n x i := qrr_f (b := i + 1) (fun a j h1 h2 _ => by rw [f.1 a (by omega) (by simp only [List.mem_cons, List.not_mem_nil, or_false]; omega)]) x hw i (by omega) hx
theorem qFz_P {m m1 : Int → Int → Int} (hP : qP m) (h : qFz m m1) : qP m1 := qP_fr hP h (by decide)
theorem qTv_z {S : zS} {m m' : Int → Int → Int} {t : Int → Int} {n : Int} (h : qTv (qW S m) t n) (f : qFz m m') : qTv (qW S m') t n := by
  obtain ⟨h1, h2, h3, h4⟩ := h
  exact ⟨h1, by show m' 37 1 = 38; rw [f.2 1 (by decide)]; exact h2, by show m' 37 2 = n; rw [f.2 2 (by decide)]; exact h3, by show m' 38 = t; rw [f.1 38 (by decide) (by decide)]; exact h4⟩
theorem r_doesPart (d : Nat) (S : zS) (t : Int → Int) (n b i fld rt : Int) (o : Nat) (l r : qTree) (T L : List Int) (m : Int → Int → Int) (h : 4 ≤ d) (hK : qK S) (hP : qP m) (hb : b ≤ 24) (hi : 0 ≤ i ∧ i < b) (hj : qjn (o : Int)) (wl : qwf l) (wr : qwf r) (hx : qrr m t n (qOp o l r) i) (hfl : fld = 0 ∨ fld = 1) (hrt : rt = 0 ∨ rt = 1) (hs : qTk2 m T L) (hl : T.length < 197) :
    ∃ m', zD d 244 [vr 37, vi i, vi rt, vi fld] (qW S m) = some (.inl none, qW S m') ∧ qTk2 m' (T ++ qpk (qhb fld o (if rt = 1 then r else l) rt) (if rt = 1 then m 97 i else m 96 i)) L ∧ qFz m m' := by
  obtain ⟨e, rfl, h1⟩ := qd h
  have hbk := r_hasBrackets e S t n b i fld rt o l r m h1 hK hP hb hi hj wl wr hx hfl hrt
  have hq : qhb fld o (if rt = 1 then r else l) rt = 0 ∨ qhb fld o (if rt = 1 then r else l) rt = 1 := by
    unfold qhb
    split
    · exact Or.inl rfl
    · exact qnb_r _ _ _ _
  generalize qhb fld o (if rt = 1 then r else l) rt = B at hbk hq ⊢
  -- the part itself
  have child : ∀ (T1 : List Int) (m1 : Int → Int → Int), qFz m m1 → qTk2 m1 T1 L → T1.length < 199 → ∀ B0 : Int, ∃ m2, zF_244 e 20 [vr 37, vi i, vi rt, vu, vi B0] [] (qW S m1) = zF_244 e 43 [vr 37, vu, vu, vu, vi B0] [] (qW S m2) ∧ qTk2 m2 (T1 ++ [if rt = 1 then m 97 i else m 96 i]) L ∧ qFz m m2 := fun T1 m1 f1 s1 hl1 B0 => by
    have hP1 := qFz_P hP f1
    obtain ⟨m2, r2, p2, f2⟩ := r_does e S (if rt = 1 then m 97 i else m 96 i) T1 L m1 (by omega) hK hP1 s1 (by omega)
    have g6 : m1 96 = m 96 := f1.1 96 (by decide) (by decide)
    have g7 : m1 97 = m 97 := f1.1 97 (by decide) (by decide)
    refine ⟨m2, ?_, p2, qFz_t f1 f2⟩
    rw [b244_20]
    rcases hrt with rfl | rfl
    · rw [if_neg (by decide)] at r2
      simp (config := { maxSteps := 2000000 }) (disch := first | omega | (simp only [K_37 hK, K_96 hK, P_37_85 hP, P_37_85 hP1, qb_in, qkW, qmW, qnW, true_and, and_true, or_self, true_or, or_true, and_self]; done) | (simp only [K_37 hK, K_96 hK, P_37_85 hP, P_37_85 hP1, qb_in, qkW, qmW, qnW, true_and, and_true, or_self, true_or, or_true, and_self]; omega)) only [b244_0, b244_7, b244_14, b244_20, b244_25, b244_34, b244_40, b244_48, b244_54, qcall_l, qcall_r, qretn_l, qJ_s, qJ_n, qV0, qEx, ↓qif0, ↓zchk_pos, ↓reduceIte, qput, qWW, qmW, qkW, qnW, K_37 hK, K_96 hK, P_37_85 hP, P_37_85 hP1, g6, Int.reduceEq, r2]
    · rw [if_pos rfl] at r2
      simp (config := { maxSteps := 2000000 }) (disch := first | omega | (simp only [K_37 hK, K_97 hK, P_37_86 hP, P_37_86 hP1, qb_in, qkW, qmW, qnW, true_and, and_true, or_self, true_or, or_true, and_self]; done) | (simp only [K_37 hK, K_97 hK, P_37_86 hP, P_37_86 hP1, qb_in, qkW, qmW, qnW, true_and, and_true, or_self, true_or, or_true, and_self]; omega)) only [b244_0, b244_7, b244_14, b244_20, b244_25, b244_34, b244_40, b244_48, b244_54, qcall_l, qcall_r, qretn_l, qJ_s, qJ_n, qV0, qEx, ↓qif0, ↓zchk_pos, ↓reduceIte, qput, qWW, qmW, qkW, qnW, K_37 hK, K_97 hK, P_37_86 hP, P_37_86 hP1, g7, Int.reduceEq, r2]
  unfold qpk
  rcases hq with rfl | rfl
  · rw [if_pos rfl]
    obtain ⟨m1, r1, p1, f1⟩ := child T m (qfr_r _ _ _) hs (by omega) 0
    refine ⟨m1, ?_, p1, f1⟩
    simp (config := { maxSteps := 2000000 }) (disch := first | omega | (simp only [K_37 hK, qb_in, qkW, qmW, qnW, true_and, and_true, or_self, true_or, or_true, and_self]; done) | (simp only [K_37 hK, qb_in, qkW, qmW, qnW, true_and, and_true, or_self, true_or, or_true, and_self]; omega)) only [zD_244, b244_0, b244_7, b244_14, b244_25, b244_34, b244_40, b244_48, b244_54, qcall_l, qcall_r, qretn_l, qJ_s, qJ_n, qV0, qEx, ↓qif0, ↓zchk_pos, ↓reduceIte, qput, qWW, qmW, qkW, qnW, K_37 hK, hbk, Int.reduceEq]
    rw [r1, b244_43]
    simp (config := { maxSteps := 2000000 }) (disch := first | omega | (simp only [K_37 hK, qb_in, qkW, qmW, qnW, true_and, and_true, or_self, true_or, or_true, and_self]; done) | (simp only [K_37 hK, qb_in, qkW, qmW, qnW, true_and, and_true, or_self, true_or, or_true, and_self]; omega)) only [b244_0, b244_7, b244_14, b244_20, b244_25, b244_34, b244_40, b244_43, b244_48, b244_54, qcall_l, qcall_r, qretn_l, qJ_s, qJ_n, qV0, qEx, ↓qif0, ↓zchk_pos, ↓reduceIte, qput, qWW, qmW, qkW, qnW, K_37 hK, Int.reduceEq]
  · rw [if_neg (by decide)]
    obtain ⟨m0, r0, p0, f0⟩ := r_does e S (-29) T L m (by omega) hK hP hs (by omega)
    obtain ⟨m1, r1, p1, f1⟩ := child _ m0 f0 p0 (by rw [List.length_append]; show T.length + 1 < 199; omega) 1
    obtain ⟨m2, r2, p2, f2⟩ := r_does e S (-36) _ L m1 (by omega) hK (qFz_P hP f1) p1 (by rw [List.length_append, List.length_append]; show T.length + 1 + 1 < 200; omega)
    refine ⟨m2, ?_, ?_, qFz_t f1 f2⟩
    · simp (config := { maxSteps := 2000000 }) (disch := first | omega | (simp only [K_37 hK, qb_in, qkW, qmW, qnW, true_and, and_true, or_self, true_or, or_true, and_self]; done) | (simp only [K_37 hK, qb_in, qkW, qmW, qnW, true_and, and_true, or_self, true_or, or_true, and_self]; omega)) only [zD_244, b244_0, b244_7, b244_14, b244_25, b244_34, b244_40, b244_48, b244_54, qcall_l, qcall_r, qretn_l, qJ_s, qJ_n, qV0, qEx, ↓qif0, ↓zchk_pos, ↓reduceIte, qput, qWW, qmW, qkW, qnW, K_37 hK, hbk, Int.reduceEq, r0]
      rw [r1, b244_43]
      simp (config := { maxSteps := 2000000 }) (disch := first | omega | (simp only [K_37 hK, qb_in, qkW, qmW, qnW, true_and, and_true, or_self, true_or, or_true, and_self]; done) | (simp only [K_37 hK, qb_in, qkW, qmW, qnW, true_and, and_true, or_self, true_or, or_true, and_self]; omega)) only [b244_0, b244_7, b244_14, b244_20, b244_25, b244_34, b244_40, b244_43, b244_48, b244_54, qcall_l, qcall_r, qretn_l, qJ_s, qJ_n, qV0, qEx, ↓qif0, ↓zchk_pos, ↓reduceIte, qput, qWW, qmW, qkW, qnW, K_37 hK, Int.reduceEq, r2]
    · rw [show T ++ [-29, if rt = 1 then m 97 i else m 96 i, -36] = T ++ [-29] ++ [if rt = 1 then m 97 i else m 96 i] ++ [-36] by simp]
      exact p2
/-- a task that is a cell -/
theorem rt_cell (e : Nat) (S : zS) (fld c : Int) (T L : List Int) (m : Int → Int → Int) (y2 : zV) (he : 1 ≤ e) (hK : qK S) (hP : qP m) (hs : qTk2 m (T ++ [-1 - c]) L) (hc : 0 ≤ c ∧ c < 64) (hT : T.length < 199) (hL : L.length < 400) :
    ∃ m', zF_248 e 18 [vr 37, vi fld, y2] [] (qW S m) = zF_248 e 18 [vr 37, vi fld, vu] [] (qW S m') ∧ qTk2 m' T (L ++ [c]) ∧ qFz m m' := by
  obtain ⟨h1, h2, h3, h4⟩ := hs
  have g1 : m 37 94 = (T.length : Int) + 1 := by rw [h1, List.length_append]; rfl
  have g2 : m 101 (T.length : Int) = -1 - c := qA_e h2
  have f0 : qFz m (qu m 37 94 T.length) := qfr_j _ _ _ (by decide)
  have hP0 := qFz_P hP f0
  have e94 : qu m 37 94 T.length 37 94 = T.length := qu_s _ _ _ _
  have e101 : qu m 37 94 T.length 101 = m 101 := qu_o _ _ _ _ _ (by decide)
  obtain ⟨m1, r1, p1, f1⟩ := r_tellsCell e S c T L (qu m 37 94 T.length) he hK hP0 ⟨e94, qA_l (qA_o h2 e101), by rw [qu_i _ _ _ _ _ (by decide), h3], qA_o h4 (qu_o _ _ _ _ _ (by decide))⟩ hL
  refine ⟨m1, ?_, p1, qFz_t f0 f1⟩
  rw [b248_18]
  simp (config := { maxSteps := 2000000 }) (disch := first | omega | (simp only [K_37 hK, K_101 hK, P_37_93 hP, P_37_93 hP0, e94, qb_in, qkW, qmW, qnW, true_and, and_true, or_self, true_or, or_true, and_self]; done) | (simp only [K_37 hK, K_101 hK, P_37_93 hP, P_37_93 hP0, e94, qb_in, qkW, qmW, qnW, true_and, and_true, or_self, true_or, or_true, and_self]; omega)) only [b248_0, b248_15, b248_25, b248_43, b248_49, b248_56, b248_59, b248_65, b248_68, qcall_l, qcall_r, qretn_l, qJ_s, qJ_n, qV0, qEx, ↓qif0, ↓zchk_pos, ↓reduceIte, qput, qWW, qmW, qkW, qnW, K_37 hK, K_101 hK, P_37_93 hP, g1, if_pos (show (0 : Int) < (T.length : Int) + 1 by omega), q32, show (T.length : Int) + 1 - 1 = T.length by omega, e94, e101, P_37_93 hP0, g2, if_pos (show -1 - c < 0 by omega), show -1 - (-1 - c) = c by omega, r1]
theorem rt_run (S : zS) (t : Int → Int) (n b fld : Int) (e : Nat) (he : 6 ≤ e) (hn : n ≤ 60) (hr : ∀ i, 0 ≤ i → i < n → 0 ≤ t i ∧ t i < 65536) (hb : b ≤ 24) (hfl : fld = 0 ∨ fld = 1) : ∀ x, qwf x → ∀ (i : Int) (T L : List Int) (m : Int → Int → Int) (y2 : zV), qTv (qW S m) t n → qP m → qTk2 m (T ++ [i]) L → qrr m t n x i → 0 ≤ i ∧ i < b → T.length + 8 * qsz x ≤ 190 → L.length + 5 * qsz x ≤ 390 →
    ∃ m', zF_248 e 18 [vr 37, vi fld, y2] [] (qW S m) = zF_248 e 18 [vr 37, vi fld, vu] [] (qW S m') ∧ qTk2 m' T (L ++ qpr fld x) ∧ qFz m m' := by
  obtain ⟨e, rfl, he1⟩ := qd he
  -- a node is taken from the tasks
  have pop : ∀ (i : Int) (T L : List Int) (m : Int → Int → Int) (y2 : zV), qTv (qW S m) t n → qP m → qTk2 m (T ++ [i]) L → 0 ≤ i → T.length < 199 → ∃ m0, qTk2 m0 T L ∧ qFz m m0 ∧ (∀ R : zR, (zcall (zD (e + 1) 247 [vr 37, vi i, vi fld] (qW S m0)) (fun v s => zJ (zF_248 (e + 1) 65 [vr 37, vi fld, vi i]) [] v s) zEx = R) → zF_248 (e + 1) 18 [vr 37, vi fld, y2] [] (qW S m) = R) := by
    intro i T L m y2 hv hP hs hi hT
    have hK : qK S := hv.1
    obtain ⟨h1, h2, h3, h4⟩ := hs
    have g1 : m 37 94 = (T.length : Int) + 1 := by rw [h1, List.length_append]; rfl
    have g2 : m 101 (T.length : Int) = i := qA_e h2
    have f0 : qFz m (qu m 37 94 T.length) := qfr_j _ _ _ (by decide)
    have hP0 := qFz_P hP f0
    have e94 : qu m 37 94 T.length 37 94 = T.length := qu_s _ _ _ _
    have e101 : qu m 37 94 T.length 101 = m 101 := qu_o _ _ _ _ _ (by decide)
    refine ⟨qu m 37 94 T.length, ⟨e94, qA_l (qA_o h2 e101), by rw [qu_i _ _ _ _ _ (by decide), h3], qA_o h4 (qu_o _ _ _ _ _ (by decide))⟩, f0, fun R hR => ?_⟩
    rw [← hR, b248_18]
    simp (config := { maxSteps := 2000000 }) (disch := first | omega | (simp only [K_37 hK, K_101 hK, P_37_93 hP, P_37_93 hP0, e94, qb_in, qkW, qmW, qnW, true_and, and_true, or_self, true_or, or_true, and_self]; done) | (simp only [K_37 hK, K_101 hK, P_37_93 hP, P_37_93 hP0, e94, qb_in, qkW, qmW, qnW, true_and, and_true, or_self, true_or, or_true, and_self]; omega)) only [b248_0, b248_15, b248_25, b248_43, b248_49, b248_56, b248_59, b248_68, qcall_l, qcall_r, qretn_l, qJ_s, qJ_n, qV0, qEx, ↓qif0, ↓zchk_pos, ↓reduceIte, qput, qWW, qmW, qkW, qnW, K_37 hK, K_101 hK, P_37_93 hP, g1, if_pos (show (0 : Int) < (T.length : Int) + 1 by omega), q32, show (T.length : Int) + 1 - 1 = T.length by omega, e94, e101, P_37_93 hP0, g2, if_neg (show ¬ i < 0 by omega)]
  have fin : ∀ (i : Int) (m1 : Int → Int → Int), zF_248 (e + 1) 65 [vr 37, vi fld, vi i] [] (qW S m1) = zF_248 (e + 1) 18 [vr 37, vi fld, vu] [] (qW S m1) := fun i m1 => by
    rw [b248_65]
  have done : ∀ (i : Int) (T L : List Int) (m : Int → Int → Int) (y2 : zV), qTv (qW S m) t n → qP m → qTk2 m (T ++ [i]) L → 0 ≤ i → T.length < 199 → ∃ m0, qTk2 m0 T L ∧ qFz m m0 ∧ ∀ m1, zD (e + 1) 247 [vr 37, vi i, vi fld] (qW S m0) = some (.inl none, qW S m1) → zF_248 (e + 1) 18 [vr 37, vi fld, y2] [] (qW S m) = zF_248 (e + 1) 18 [vr 37, vi fld, vu] [] (qW S m1) := fun i T L m y2 hv hP hs hi hT => by
    obtain ⟨m0, a1, a2, a3⟩ := pop i T L m y2 hv hP hs hi hT
    refine ⟨m0, a1, a2, fun m1 h1 => a3 _ ?_⟩
    rw [h1]
    exact fin i m1
  refine q_ind (fun z hz i T L m y2 hv hP hs hx hi hT hL => ?_) fun o l r hj wl wr il ir i T L m y2 hv hP hs hx hi hT hL => ?_
  · have hK : qK S := hv.1
    rw [qsz_a] at hT hL
    obtain ⟨m0, s0, f0, d0⟩ := done i T L m y2 hv hP hs hi.1 (by omega)
    have hP0 := qFz_P hP f0
    have hx0 := qrr_z f0 (x := qAt z) hz hx
    have hv0 := qTv_z hv f0
    rw [qrr_a] at hx0
    rw [qpr_a]
    by_cases c : z < 0
    · rw [if_pos c] at hx0 ⊢
      obtain ⟨y1, y2'⟩ := hx0
      have hzr : -26 ≤ z := by unfold qza at hz; omega
      have co := r_cellOf e (qW S m0) (96 - z) (by omega) (by omega)
      rw [show 96 - z - 97 = -1 - z by omega] at co
      obtain ⟨m1, r1, p1, f1⟩ := r_tellsCell e S (qlc (-1 - z)) T L m0 (by omega) hK hP0 s0 (by omega)
      refine ⟨m1, d0 m1 ?_, p1, qFz_t f0 f1⟩
      simp (config := { maxSteps := 2000000 }) (disch := first | omega | (simp only [K_37 hK, K_95 hK, P_37_84 hP, K_96 hK, P_37_85 hP, P_37_84 hP0, P_37_85 hP0, qb_in, qkW, qmW, qnW, true_and, and_true, or_self, true_or, or_true, and_self]; done) | (simp only [K_37 hK, K_95 hK, P_37_84 hP, K_96 hK, P_37_85 hP, P_37_84 hP0, P_37_85 hP0, qb_in, qkW, qmW, qnW, true_and, and_true, or_self, true_or, or_true, and_self]; omega)) only [zD_247, b247_0, b247_13, b247_24, b247_27, b247_30, b247_36, b247_42, b247_65, b247_68, b247_75, b247_81, b247_84, b247_90, b247_93, b247_98, b247_104, b247_110, b247_114, b247_115, b247_122, b247_130, b247_135, b247_137, b247_141, b247_148, b247_155, b247_159, b247_166, b247_171, b247_177, b247_183, qcall_l, qcall_r, qretn_l, qJ_s, qJ_n, qV0, qEx, ↓qif0, ↓zchk_pos, ↓reduceIte, qput, qWW, qmW, qkW, qnW, K_37 hK, K_95 hK, P_37_84 hP, K_96 hK, P_37_85 hP, P_37_84 hP0, P_37_85 hP0, y1, y2', Int.reduceEq, show (96 - z) % 65536 = 96 - z by omega, co, r1]
    · rw [if_neg c] at hx0 ⊢
      obtain ⟨y1, k, hk, y7, hp0, hpn, hd, hzn⟩ := hx0
      have hdl := qdl_n (qsy t n) (m0 96 i) k hk hd
      rw [← hzn] at hdl
      rw [hdl]
      obtain ⟨m1, r1, p1, f1⟩ := r_tellsCell e S 60 T L m0 (by omega) hK hP0 s0 (by omega)
      have lp : ∀ (g j : Nat) (m2 : Int → Int → Int), j + g = k → qFz m0 m2 → qTk2 m2 T (L ++ 60 :: qdn (qsy t n) (m0 96 i) j) → ∃ m3, zF_247 e 50 [vr 37, vi i, vu, vu, vi (m0 96 i + j)] [] (qW S m2) = some (.inl none, qW S m3) ∧ qTk2 m3 T (L ++ 60 :: qdn (qsy t n) (m0 96 i) k) ∧ qFz m0 m3 := by
        intro g
        induction g with
        | zero =>
          intro j m2 hj2 f2 p2
          have hjk : j = k := by omega
          subst hjk
          have hP2 := qFz_P hP0 f2
          have g6 : m2 96 = m0 96 := f2.1 96 (by decide) (by decide)
          have g7 : m2 97 = m0 97 := f2.1 97 (by decide) (by decide)
          refine ⟨m2, ?_, p2, f2⟩
          rw [b247_50]
          simp (config := { maxSteps := 2000000 }) (disch := first | omega | (simp only [K_37 hK, K_96 hK, P_37_85 hP, K_97 hK, P_37_86 hP, P_37_85 hP2, P_37_86 hP2, qb_in, qkW, qmW, qnW, true_and, and_true, or_self, true_or, or_true, and_self]; done) | (simp only [K_37 hK, K_96 hK, P_37_85 hP, K_97 hK, P_37_86 hP, P_37_85 hP2, P_37_86 hP2, qb_in, qkW, qmW, qnW, true_and, and_true, or_self, true_or, or_true, and_self]; omega)) only [b247_0, b247_13, b247_24, b247_27, b247_30, b247_36, b247_42, b247_65, b247_68, b247_75, b247_81, b247_84, b247_90, b247_93, b247_98, b247_104, b247_110, b247_114, b247_115, b247_122, b247_130, b247_135, b247_137, b247_141, b247_148, b247_155, b247_159, b247_166, b247_171, b247_177, b247_183, qcall_l, qcall_r, qretn_l, qJ_s, qJ_n, qV0, qEx, ↓qif0, ↓zchk_pos, ↓reduceIte, qput, qWW, qmW, qkW, qnW, K_37 hK, K_96 hK, P_37_85 hP, K_97 hK, P_37_86 hP, P_37_85 hP2, P_37_86 hP2, g6, g7, y7, q32, Int.lt_irrefl]
        | succ g ih =>
          intro j m2 hj2 f2 p2
          have hP2 := qFz_P hP0 f2
          have hv2 := qTv_z hv0 f2
          have g6 : m2 96 = m0 96 := f2.1 96 (by decide) (by decide)
          have g7 : m2 97 = m0 97 := f2.1 97 (by decide) (by decide)
          have hdj := hd j (by omega) (by omega)
          have sg := v_signAt e (qW S m2) (m0 96 i + j) t n hn hr (by omega) (by omega) hv2
          rw [qsg_lt (by omega), ← qsy_i (t := t) (n := n) (p := m0 96 i + j) ⟨by omega, by omega⟩] at sg
          have cd := r_cellOfDigit e (qW S m2) (qsy t n (m0 96 i + j) - 48) (by omega) (by omega)
          obtain ⟨m3, r3, p3, f3⟩ := r_tellsCell e S (qlc (if qsy t n (m0 96 i + j) - 48 = 0 then 9 else qsy t n (m0 96 i + j) - 48 - 1)) T _ m2 (by omega) hK hP2 p2 (by rw [List.length_append, List.length_cons, qdn_l]; omega)
          obtain ⟨m4, r4, p4, f4⟩ := ih (j + 1) m3 (by omega) (qFz_t f2 f3) (by
            rw [qdn]
            rw [List.append_assoc, List.cons_append] at p3
            exact p3)
          rw [show m0 96 i + ((j + 1 : Nat) : Int) = m0 96 i + j + 1 by omega] at r4
          refine ⟨m4, ?_, p4, f4⟩
          rw [b247_50]
          simp (config := { maxSteps := 2000000 }) (disch := first | omega | (simp only [K_37 hK, K_96 hK, P_37_85 hP, K_97 hK, P_37_86 hP, P_37_85 hP2, P_37_86 hP2, qb_in, qkW, qmW, qnW, true_and, and_true, or_self, true_or, or_true, and_self]; done) | (simp only [K_37 hK, K_96 hK, P_37_85 hP, K_97 hK, P_37_86 hP, P_37_85 hP2, P_37_86 hP2, qb_in, qkW, qmW, qnW, true_and, and_true, or_self, true_or, or_true, and_self]; omega)) only [b247_0, b247_13, b247_24, b247_27, b247_30, b247_36, b247_42, b247_65, b247_68, b247_75, b247_81, b247_84, b247_90, b247_93, b247_98, b247_104, b247_110, b247_114, b247_115, b247_122, b247_130, b247_135, b247_137, b247_141, b247_148, b247_155, b247_159, b247_166, b247_171, b247_177, b247_183, qcall_l, qcall_r, qretn_l, qJ_s, qJ_n, qV0, qEx, ↓qif0, ↓zchk_pos, ↓reduceIte, qput, qWW, qmW, qkW, qnW, K_37 hK, K_96 hK, P_37_85 hP, K_97 hK, P_37_86 hP, P_37_85 hP2, P_37_86 hP2, g6, g7, y7, q32, if_pos (show m0 96 i + (j : Int) < m0 96 i + k by omega), sg, cd, r3]
          exact r4
      have hP1 := qFz_P hP0 f1
      have g6 : m1 96 = m0 96 := f1.1 96 (by decide) (by decide)
      obtain ⟨m2, r2, p2, f2⟩ := lp k 0 m1 (by omega) f1 (by rw [qdn]; exact p1)
      rw [show m0 96 i + ((0 : Nat) : Int) = m0 96 i by omega] at r2
      refine ⟨m2, d0 m2 ?_, p2, qFz_t f0 f2⟩
      simp (config := { maxSteps := 2000000 }) (disch := first | omega | (simp only [K_37 hK, K_95 hK, P_37_84 hP, K_96 hK, P_37_85 hP, P_37_84 hP0, P_37_85 hP1, qb_in, qkW, qmW, qnW, true_and, and_true, or_self, true_or, or_true, and_self]; done) | (simp only [K_37 hK, K_95 hK, P_37_84 hP, K_96 hK, P_37_85 hP, P_37_84 hP0, P_37_85 hP1, qb_in, qkW, qmW, qnW, true_and, and_true, or_self, true_or, or_true, and_self]; omega)) only [zD_247, b247_0, b247_13, b247_24, b247_27, b247_30, b247_36, b247_42, b247_65, b247_68, b247_75, b247_81, b247_84, b247_90, b247_93, b247_98, b247_104, b247_110, b247_114, b247_115, b247_122, b247_130, b247_135, b247_137, b247_141, b247_148, b247_155, b247_159, b247_166, b247_171, b247_177, b247_183, qcall_l, qcall_r, qretn_l, qJ_s, qJ_n, qV0, qEx, ↓qif0, ↓zchk_pos, ↓reduceIte, qput, qWW, qmW, qkW, qnW, K_37 hK, K_95 hK, P_37_84 hP, K_96 hK, P_37_85 hP, P_37_84 hP0, P_37_85 hP1, y1, Int.reduceEq, r1, g6]
      exact r2
  · have hK : qK S := hv.1
    rw [qsz_o] at hT hL
    obtain ⟨m0, s0, f0, d0⟩ := done i T L m y2 hv hP hs hi.1 (by omega)
    have hP0 := qFz_P hP f0
    have hv0 := qTv_z hv f0
    have wo : qwf (qOp o l r) := by rw [qwf_o]; exact ⟨hj, wl, wr⟩
    have hx0 := qrr_z f0 wo hx
    have hxx := hx0
    rw [qrr_o] at hxx
    obtain ⟨x1, x2, x3, x4, x5⟩ := hxx
    have zl := qsz_1 l wl
    have zr := qsz_1 r wr
    have pl := qpr_l fld l wl
    have prr := qpr_l fld r wr
    have bl := qbk_l (qnb fld o l 0) (qpr fld l)
    have br := qbk_l (qnb fld o r 1) (qpr fld r)
    -- a part is told
    have part : ∀ (B : Int) (x : qTree) (c : Int) (T1 L1 : List Int) (m1 : Int → Int → Int) (y : zV), (B = 0 ∨ B = 1) → qwf x → (∀ (T1 L1 : List Int) (m1 : Int → Int → Int) (y : zV), qFz m0 m1 → qTk2 m1 (T1 ++ [c]) L1 → T1.length + 8 * qsz x ≤ 190 → L1.length + 5 * qsz x ≤ 390 → ∃ m2, zF_248 (e + 1) 18 [vr 37, vi fld, y] [] (qW S m1) = zF_248 (e + 1) 18 [vr 37, vi fld, vu] [] (qW S m2) ∧ qTk2 m2 T1 (L1 ++ qpr fld x) ∧ qFz m1 m2) → qFz m0 m1 → qTk2 m1 (T1 ++ qpk B c) L1 → T1.length + 8 * qsz x + 1 ≤ 190 → L1.length + 5 * qsz x + 2 ≤ 390 → ∃ m2, zF_248 (e + 1) 18 [vr 37, vi fld, y] [] (qW S m1) = zF_248 (e + 1) 18 [vr 37, vi fld, vu] [] (qW S m2) ∧ qTk2 m2 T1 (L1 ++ qbk B (qpr fld x)) ∧ qFz m0 m2 := by
      intro B x c T1 L1 m1 y hB wx hx f1 s1 hT1 hL1
      have px := qpr_l fld x wx
      unfold qpk at s1
      unfold qbk
      rcases hB with rfl | rfl
      · rw [if_pos rfl] at s1 ⊢
        obtain ⟨m2, a1, a2, a3⟩ := hx T1 L1 m1 y f1 s1 (by omega) (by omega)
        exact ⟨m2, a1, a2, qFz_t f1 a3⟩
      · rw [if_neg (by decide)] at s1 ⊢
        rw [show T1 ++ [-29, c, -36] = T1 ++ [-29] ++ [c] ++ [-1 - 35] by simp] at s1
        obtain ⟨m2, a1, a2, a3⟩ := rt_cell (e + 1) S fld 35 _ L1 m1 y (by omega) hK (qFz_P hP0 f1) s1 (by decide) (by rw [List.length_append, List.length_append]; show T1.length + 1 + 1 < 199; omega) (by omega)
        have f2 := qFz_t f1 a3
        obtain ⟨m3, b1, b2, b3⟩ := hx _ _ m2 vu f2 a2 (by rw [List.length_append]; show T1.length + 1 + _ ≤ 190; omega) (by rw [List.length_append]; show L1.length + 1 + _ ≤ 390; omega)
        have f3 := qFz_t f2 b3
        obtain ⟨m4, c1, c2, c3⟩ := rt_cell (e + 1) S fld 28 T1 _ m3 vu (by omega) hK (qFz_P hP0 f3) b2 (by decide) (by omega) (by rw [List.length_append, List.length_append]; show L1.length + 1 + _ < 400; omega)
        refine ⟨m4, by rw [a1, b1, c1], ?_, qFz_t f3 c3⟩
        rw [show L1 ++ ([35] ++ qpr fld x ++ [28]) = L1 ++ [35] ++ qpr fld x ++ [28] by simp]
        exact c2
    have tl : ∀ (T1 L1 : List Int) (m1 : Int → Int → Int) (y : zV), qFz m0 m1 → qTk2 m1 (T1 ++ [m0 96 i]) L1 → T1.length + 8 * qsz l ≤ 190 → L1.length + 5 * qsz l ≤ 390 → ∃ m2, zF_248 (e + 1) 18 [vr 37, vi fld, y] [] (qW S m1) = zF_248 (e + 1) 18 [vr 37, vi fld, vu] [] (qW S m2) ∧ qTk2 m2 T1 (L1 ++ qpr fld l) ∧ qFz m1 m2 := fun T1 L1 m1 y f1 s1 h1 h2 => il _ T1 L1 m1 y (qTv_z hv0 f1) (qFz_P hP0 f1) s1 (qrr_z f1 wl x4) (by omega) h1 h2
    have tr : ∀ (T1 L1 : List Int) (m1 : Int → Int → Int) (y : zV), qFz m0 m1 → qTk2 m1 (T1 ++ [m0 97 i]) L1 → T1.length + 8 * qsz r ≤ 190 → L1.length + 5 * qsz r ≤ 390 → ∃ m2, zF_248 (e + 1) 18 [vr 37, vi fld, y] [] (qW S m1) = zF_248 (e + 1) 18 [vr 37, vi fld, vu] [] (qW S m2) ∧ qTk2 m2 T1 (L1 ++ qpr fld r) ∧ qFz m1 m2 := fun T1 L1 m1 y f1 s1 h1 h2 => ir _ T1 L1 m1 y (qTv_z hv0 f1) (qFz_P hP0 f1) s1 (qrr_z f1 wr x5) (by omega) h1 h2
    have cj := r_cellOfJoin e (qW S m0) o fld (by omega) hj
    have hcs : 0 ≤ (if (o : Int) = 94 ∧ fld ≠ 0 then (24 : Int) else qcs o) ∧ (if (o : Int) = 94 ∧ fld ≠ 0 then (24 : Int) else qcs o) < 64 := by
      unfold qcs
      repeat' split
      all_goals decide
    -- the tasks of a node, from its right part on
    have mid : ∀ (T1 : List Int) (m1 : Int → Int → Int) (a4 : Int), qFz m0 m1 → qTk2 m1 T1 L → T1.length < 180 → ∃ m2, zF_247 e 141 [vr 37, vi i, vi fld, vi o, vi a4] [] (qW S m1) = zF_247 e 166 [vr 37, vi i, vi fld, vi o, vi a4] [] (qW S m2) ∧ qTk2 m2 (T1 ++ qpk (qhb fld o r 1) (m0 97 i) ++ [-1 - (if (o : Int) = 94 ∧ fld ≠ 0 then 24 else qcs o)] ++ qpk (qhb fld o l 0) (m0 96 i)) L ∧ qFz m0 m2 := by
      intro T1 m1 a4 f1 s1 hT1
      have lpk : ∀ B c, (qpk B c).length ≤ 3 := fun B c => by
        unfold qpk
        split
        · show 1 ≤ 3; decide
        · show 3 ≤ 3; decide
      obtain ⟨m2, r2, p2, f2⟩ := r_doesPart e S t n b i fld 1 o l r T1 L m1 (by omega) hK (qFz_P hP0 f1) hb hi hj wl wr (qrr_z f1 wo hx0) hfl (Or.inr rfl) s1 (by omega)
      rw [if_pos rfl, if_pos rfl, show m1 97 = m0 97 from f1.1 97 (by decide) (by decide)] at p2
      have f12 := qFz_t f1 f2
      have cj2 := r_cellOfJoin e (qW S m2) o fld (by omega) hj
      have l1 := lpk (qhb fld o r 1) (m0 97 i)
      obtain ⟨m3, r3, p3, f3⟩ := r_does e S (-1 - (if (o : Int) = 94 ∧ fld ≠ 0 then 24 else qcs o)) _ L m2 (by omega) hK (qFz_P hP0 f12) p2 (by rw [List.length_append]; omega)
      have f13 := qFz_t f12 f3
      obtain ⟨m4, r4, p4, f4⟩ := r_doesPart e S t n b i fld 0 o l r _ L m3 (by omega) hK (qFz_P hP0 f13) hb hi hj wl wr (qrr_z f13 wo hx0) hfl (Or.inl rfl) p3 (by rw [List.length_append, List.length_append]; show T1.length + _ + 1 < 197; omega)
      have e01 : ¬ (0 : Int) = 1 := by decide
      rw [show (if (0 : Int) = 1 then r else l) = l from if_neg e01, show (if (0 : Int) = 1 then m3 97 i else m3 96 i) = m3 96 i from if_neg e01, show m3 96 = m0 96 from f13.1 96 (by decide) (by decide)] at p4
      refine ⟨m4, ?_, p4, qFz_t f13 f4⟩
      rw [b247_141]
      simp (config := { maxSteps := 2000000 }) (disch := first | omega | (simp only [K_37 hK, qb_in, qkW, qmW, qnW, true_and, and_true, or_self, true_or, or_true, and_self]; done) | (simp only [K_37 hK, qb_in, qkW, qmW, qnW, true_and, and_true, or_self, true_or, or_true, and_self]; omega)) only [b247_0, b247_13, b247_24, b247_27, b247_30, b247_36, b247_42, b247_65, b247_68, b247_75, b247_81, b247_84, b247_90, b247_93, b247_98, b247_104, b247_110, b247_114, b247_115, b247_122, b247_130, b247_135, b247_137, b247_141, b247_148, b247_155, b247_159, b247_171, b247_177, b247_183, qcall_l, qcall_r, qretn_l, qJ_s, qJ_n, qV0, qEx, ↓qif0, ↓zchk_pos, ↓reduceIte, qput, qWW, qmW, qkW, qnW, K_37 hK, r2, cj2, q32, r3, r4]
    rw [qpr_o]
    by_cases c1 : fld = 1 ∧ (o : Int) = 47
    · rw [if_pos c1]
      have ho : (o : Int) = 47 := c1.2
      have eb : qhb fld o r 1 = 0 ∧ qhb fld o l 0 = 0 := by
        unfold qhb
        rw [if_pos ⟨c1.1, Or.inl ho⟩, if_pos ⟨c1.1, Or.inl ho⟩]
        exact ⟨rfl, rfl⟩
      have ec : (if (o : Int) = 94 ∧ fld ≠ 0 then (24 : Int) else qcs o) = 12 := by
        rw [if_neg (by omega), ho]
        rfl
      obtain ⟨m1, r1, p1, f1⟩ := r_does e S (-63) T L m0 (by omega) hK hP0 s0 (by omega)
      obtain ⟨m2, r2, p2, f2⟩ := mid _ m1 1 f1 p1 (by rw [List.length_append]; show T.length + 1 < 180; omega)
      rw [eb.1, eb.2, ec] at p2
      obtain ⟨m3, r3, p3, f3⟩ := r_does e S (-56) _ L m2 (by omega) hK (qFz_P hP0 f2) p2 (by
        simp only [List.length_append]
        show T.length + 1 + 1 + 1 + 1 < 200
        omega)
      have f23 := qFz_t f2 f3
      have hnode : zD (e + 1) 247 [vr 37, vi i, vi fld] (qW S m0) = some (.inl none, qW S m3) := by
        rw [ho] at x1 r2
        simp (config := { maxSteps := 2000000 }) (disch := first | omega | (simp only [K_37 hK, K_95 hK, P_37_84 hP, P_37_84 hP0, qb_in, qkW, qmW, qnW, true_and, and_true, or_self, true_or, or_true, and_self]; done) | (simp only [K_37 hK, K_95 hK, P_37_84 hP, P_37_84 hP0, qb_in, qkW, qmW, qnW, true_and, and_true, or_self, true_or, or_true, and_self]; omega)) only [zD_247, b247_0, b247_13, b247_24, b247_27, b247_30, b247_36, b247_42, b247_65, b247_68, b247_75, b247_81, b247_84, b247_90, b247_93, b247_98, b247_104, b247_110, b247_114, b247_115, b247_122, b247_130, b247_135, b247_137, b247_148, b247_155, b247_159, b247_171, b247_177, b247_183, qcall_l, qcall_r, qretn_l, qJ_s, qJ_n, qV0, qEx, ↓qif0, ↓zchk_pos, ↓reduceIte, qput, qWW, qmW, qkW, qnW, K_37 hK, K_95 hK, P_37_84 hP, P_37_84 hP0, x1, Int.reduceEq, if_pos c1.1, q32, Int.reduceSub, r1]
        rw [r2, b247_166]
        simp (config := { maxSteps := 2000000 }) (disch := first | omega | (simp only [K_37 hK, qb_in, qkW, qmW, qnW, true_and, and_true, or_self, true_or, or_true, and_self]; done) | (simp only [K_37 hK, qb_in, qkW, qmW, qnW, true_and, and_true, or_self, true_or, or_true, and_self]; omega)) only [b247_0, b247_13, b247_24, b247_27, b247_30, b247_36, b247_42, b247_65, b247_68, b247_75, b247_81, b247_84, b247_90, b247_93, b247_98, b247_104, b247_110, b247_114, b247_115, b247_122, b247_130, b247_135, b247_137, b247_141, b247_148, b247_155, b247_159, b247_166, b247_171, b247_177, b247_183, qcall_l, qcall_r, qretn_l, qJ_s, qJ_n, qV0, qEx, ↓qif0, ↓zchk_pos, ↓reduceIte, qput, qWW, qmW, qkW, qnW, K_37 hK, Int.reduceEq, r3]
      have hd := d0 m3 hnode
      -- told
      rw [show T ++ [-63] ++ qpk 0 (m0 97 i) ++ [-1 - 12] ++ qpk 0 (m0 96 i) ++ [-56] = T ++ [-1 - 62] ++ [m0 97 i] ++ [-1 - 12] ++ [m0 96 i] ++ [-1 - 55] from rfl] at p3
      obtain ⟨m4, r4, p4, f4⟩ := rt_cell (e + 1) S fld 55 _ L m3 vu (by omega) hK (qFz_P hP0 f23) p3 (by decide) (by simp only [List.length_append]; show T.length + 1 + 1 + 1 + 1 < 199; omega) (by omega)
      have g4 := qFz_t f23 f4
      obtain ⟨m5, r5, p5, f5⟩ := tl _ _ m4 vu g4 p4 (by simp only [List.length_append]; show T.length + 1 + 1 + 1 + _ ≤ 190; omega) (by simp only [List.length_append]; show L.length + 1 + _ ≤ 390; omega)
      have g5 := qFz_t g4 f5
      obtain ⟨m6, r6, p6, f6⟩ := rt_cell (e + 1) S fld 12 _ _ m5 vu (by omega) hK (qFz_P hP0 g5) p5 (by decide) (by simp only [List.length_append]; show T.length + 1 + 1 < 199; omega) (by simp only [List.length_append]; show L.length + 1 + _ < 400; omega)
      have g6 := qFz_t g5 f6
      obtain ⟨m7, r7, p7, f7⟩ := tr _ _ m6 vu g6 p6 (by simp only [List.length_append]; show T.length + 1 + _ ≤ 190; omega) (by simp only [List.length_append]; show L.length + 1 + _ + 1 + _ ≤ 390; omega)
      have g7 := qFz_t g6 f7
      obtain ⟨m8, r8, p8, f8⟩ := rt_cell (e + 1) S fld 62 T _ m7 vu (by omega) hK (qFz_P hP0 g7) p7 (by decide) (by omega) (by simp only [List.length_append]; show L.length + 1 + _ + 1 + _ < 400; omega)
      refine ⟨m8, by rw [hd, r4, r5, r6, r7, r8], ?_, qFz_t f0 (qFz_t g7 f8)⟩
      rw [show L ++ ([55] ++ qpr fld l ++ [12] ++ qpr fld r ++ [62]) = L ++ [55] ++ qpr fld l ++ [12] ++ qpr fld r ++ [62] by simp]
      exact p8
    · rw [if_neg c1]
      by_cases c2 : fld = 1 ∧ (o : Int) = 94
      · rw [if_pos c2]
        have ho : (o : Int) = 94 := c2.2
        have eb : qhb fld o r 1 = 0 ∧ qhb fld o l 0 = qnb fld o l 0 := by
          unfold qhb
          rw [if_pos ⟨c2.1, Or.inr ⟨ho, rfl⟩⟩, if_neg (by omega)]
          exact ⟨rfl, rfl⟩
        have ec : (if (o : Int) = 94 ∧ fld ≠ 0 then (24 : Int) else qcs o) = 24 := if_pos ⟨ho, by omega⟩
        obtain ⟨m1, r1, p1, f1⟩ := r_does e S (-17) T L m0 (by omega) hK hP0 s0 (by omega)
        obtain ⟨m2, r2, p2, f2⟩ := mid _ m1 1 f1 p1 (by rw [List.length_append]; show T.length + 1 < 180; omega)
        rw [eb.1, eb.2, ec] at p2
        have hnode : zD (e + 1) 247 [vr 37, vi i, vi fld] (qW S m0) = some (.inl none, qW S m2) := by
          rw [ho] at x1 r2
          simp (config := { maxSteps := 2000000 }) (disch := first | omega | (simp only [K_37 hK, K_95 hK, P_37_84 hP, P_37_84 hP0, qb_in, qkW, qmW, qnW, true_and, and_true, or_self, true_or, or_true, and_self]; done) | (simp only [K_37 hK, K_95 hK, P_37_84 hP, P_37_84 hP0, qb_in, qkW, qmW, qnW, true_and, and_true, or_self, true_or, or_true, and_self]; omega)) only [zD_247, b247_0, b247_13, b247_24, b247_27, b247_30, b247_36, b247_42, b247_65, b247_68, b247_75, b247_81, b247_84, b247_90, b247_93, b247_98, b247_104, b247_110, b247_114, b247_115, b247_122, b247_130, b247_135, b247_137, b247_148, b247_155, b247_159, b247_171, b247_177, b247_183, qcall_l, qcall_r, qretn_l, qJ_s, qJ_n, qV0, qEx, ↓qif0, ↓zchk_pos, ↓reduceIte, qput, qWW, qmW, qkW, qnW, K_37 hK, K_95 hK, P_37_84 hP, P_37_84 hP0, x1, Int.reduceEq, if_pos c2.1, q32, Int.reduceSub, r1]
          rw [r2, b247_166]
          simp (config := { maxSteps := 2000000 }) (disch := first | omega | (simp only [K_37 hK, qb_in, qkW, qmW, qnW, true_and, and_true, or_self, true_or, or_true, and_self]; done) | (simp only [K_37 hK, qb_in, qkW, qmW, qnW, true_and, and_true, or_self, true_or, or_true, and_self]; omega)) only [b247_0, b247_13, b247_24, b247_27, b247_30, b247_36, b247_42, b247_65, b247_68, b247_75, b247_81, b247_84, b247_90, b247_93, b247_98, b247_104, b247_110, b247_114, b247_115, b247_122, b247_130, b247_135, b247_137, b247_141, b247_148, b247_155, b247_159, b247_166, b247_171, b247_177, b247_183, qcall_l, qcall_r, qretn_l, qJ_s, qJ_n, qV0, qEx, ↓qif0, ↓zchk_pos, ↓reduceIte, qput, qWW, qmW, qkW, qnW, K_37 hK, Int.reduceEq]
        have hd := d0 m2 hnode
        rw [show T ++ [-17] ++ qpk 0 (m0 97 i) ++ [-1 - 24] ++ qpk (qnb fld o l 0) (m0 96 i) = T ++ [-1 - 16] ++ [m0 97 i] ++ [-1 - 24] ++ qpk (qnb fld o l 0) (m0 96 i) from rfl] at p2
        obtain ⟨m3, r3, p3, g3⟩ := part _ l _ _ L m2 vu (qnb_r _ _ _ _) wl tl f2 p2 (by simp only [List.length_append]; show T.length + 1 + 1 + 1 + _ + 1 ≤ 190; omega) (by omega)
        obtain ⟨m4, r4, p4, f4⟩ := rt_cell (e + 1) S fld 24 _ _ m3 vu (by omega) hK (qFz_P hP0 g3) p3 (by decide) (by simp only [List.length_append]; show T.length + 1 + 1 < 199; omega) (by simp only [List.length_append]; omega)
        have g4 := qFz_t g3 f4
        obtain ⟨m5, r5, p5, f5⟩ := tr _ _ m4 vu g4 p4 (by simp only [List.length_append]; show T.length + 1 + _ ≤ 190; omega) (by simp only [List.length_append]; show L.length + _ + 1 + _ ≤ 390; omega)
        have g5 := qFz_t g4 f5
        obtain ⟨m6, r6, p6, f6⟩ := rt_cell (e + 1) S fld 16 T _ m5 vu (by omega) hK (qFz_P hP0 g5) p5 (by decide) (by omega) (by simp only [List.length_append]; show L.length + _ + 1 + _ < 400; omega)
        refine ⟨m6, by rw [hd, r3, r4, r5, r6], ?_, qFz_t f0 (qFz_t g5 f6)⟩
        rw [show L ++ (qbk (qnb fld o l 0) (qpr fld l) ++ [24] ++ qpr fld r ++ [16]) = L ++ qbk (qnb fld o l 0) (qpr fld l) ++ [24] ++ qpr fld r ++ [16] by simp]
        exact p6
      · rw [if_neg c2]
        have eb : qhb fld o r 1 = qnb fld o r 1 ∧ qhb fld o l 0 = qnb fld o l 0 := by
          unfold qhb
          rw [if_neg (by omega), if_neg (by omega)]
          exact ⟨rfl, rfl⟩
        have ec : (if (o : Int) = 94 ∧ fld ≠ 0 then (24 : Int) else qcs o) = qcs o := if_neg (by omega)
        rw [ec] at hcs
        obtain ⟨m2, r2, p2, f2⟩ := mid T m0 0 (qfr_r _ _ _) s0 (by omega)
        rw [eb.1, eb.2, ec] at p2
        have n48 : ¬ (o : Int) = 48 := by omega
        have n97 : ¬ (o : Int) = 97 := by omega
        have hnode : zD (e + 1) 247 [vr 37, vi i, vi fld] (qW S m0) = some (.inl none, qW S m2) := by
          by_cases c3 : fld = 1
          · have n1 : ¬ (o : Int) = 47 := fun z => c1 ⟨c3, z⟩
            have n2 : ¬ (o : Int) = 94 := fun z => c2 ⟨c3, z⟩
            simp (config := { maxSteps := 2000000 }) (disch := first | omega | (simp only [K_37 hK, K_95 hK, P_37_84 hP, P_37_84 hP0, qb_in, qkW, qmW, qnW, true_and, and_true, or_self, true_or, or_true, and_self]; done) | (simp only [K_37 hK, K_95 hK, P_37_84 hP, P_37_84 hP0, qb_in, qkW, qmW, qnW, true_and, and_true, or_self, true_or, or_true, and_self]; omega)) only [zD_247, b247_0, b247_13, b247_24, b247_27, b247_30, b247_36, b247_42, b247_65, b247_68, b247_75, b247_81, b247_84, b247_90, b247_93, b247_98, b247_104, b247_110, b247_114, b247_115, b247_122, b247_130, b247_135, b247_137, b247_148, b247_155, b247_159, b247_171, b247_177, b247_183, qcall_l, qcall_r, qretn_l, qJ_s, qJ_n, qV0, qEx, ↓qif0, ↓zchk_pos, ↓reduceIte, qput, qWW, qmW, qkW, qnW, K_37 hK, K_95 hK, P_37_84 hP, P_37_84 hP0, x1, if_neg n48, if_neg n97, if_pos c3, if_neg n1, if_neg n2, Int.reduceEq]
            rw [r2, b247_166]
            simp (config := { maxSteps := 2000000 }) (disch := first | omega | (simp only [K_37 hK, qb_in, qkW, qmW, qnW, true_and, and_true, or_self, true_or, or_true, and_self]; done) | (simp only [K_37 hK, qb_in, qkW, qmW, qnW, true_and, and_true, or_self, true_or, or_true, and_self]; omega)) only [b247_0, b247_13, b247_24, b247_27, b247_30, b247_36, b247_42, b247_65, b247_68, b247_75, b247_81, b247_84, b247_90, b247_93, b247_98, b247_104, b247_110, b247_114, b247_115, b247_122, b247_130, b247_135, b247_137, b247_141, b247_148, b247_155, b247_159, b247_166, b247_171, b247_177, b247_183, qcall_l, qcall_r, qretn_l, qJ_s, qJ_n, qV0, qEx, ↓qif0, ↓zchk_pos, ↓reduceIte, qput, qWW, qmW, qkW, qnW, K_37 hK, Int.reduceEq]
          · simp (config := { maxSteps := 2000000 }) (disch := first | omega | (simp only [K_37 hK, K_95 hK, P_37_84 hP, P_37_84 hP0, qb_in, qkW, qmW, qnW, true_and, and_true, or_self, true_or, or_true, and_self]; done) | (simp only [K_37 hK, K_95 hK, P_37_84 hP, P_37_84 hP0, qb_in, qkW, qmW, qnW, true_and, and_true, or_self, true_or, or_true, and_self]; omega)) only [zD_247, b247_0, b247_13, b247_24, b247_27, b247_30, b247_36, b247_42, b247_65, b247_68, b247_75, b247_81, b247_84, b247_90, b247_93, b247_98, b247_104, b247_110, b247_114, b247_115, b247_122, b247_130, b247_135, b247_137, b247_148, b247_155, b247_159, b247_171, b247_177, b247_183, qcall_l, qcall_r, qretn_l, qJ_s, qJ_n, qV0, qEx, ↓qif0, ↓zchk_pos, ↓reduceIte, qput, qWW, qmW, qkW, qnW, K_37 hK, K_95 hK, P_37_84 hP, P_37_84 hP0, x1, if_neg n48, if_neg n97, if_neg c3, Int.reduceEq]
            rw [r2, b247_166]
            simp (config := { maxSteps := 2000000 }) (disch := first | omega | (simp only [K_37 hK, qb_in, qkW, qmW, qnW, true_and, and_true, or_self, true_or, or_true, and_self]; done) | (simp only [K_37 hK, qb_in, qkW, qmW, qnW, true_and, and_true, or_self, true_or, or_true, and_self]; omega)) only [b247_0, b247_13, b247_24, b247_27, b247_30, b247_36, b247_42, b247_65, b247_68, b247_75, b247_81, b247_84, b247_90, b247_93, b247_98, b247_104, b247_110, b247_114, b247_115, b247_122, b247_130, b247_135, b247_137, b247_141, b247_148, b247_155, b247_159, b247_166, b247_171, b247_177, b247_183, qcall_l, qcall_r, qretn_l, qJ_s, qJ_n, qV0, qEx, ↓qif0, ↓zchk_pos, ↓reduceIte, qput, qWW, qmW, qkW, qnW, K_37 hK, Int.reduceEq]
        have hd := d0 m2 hnode
        obtain ⟨m3, r3, p3, g3⟩ := part _ l _ _ L m2 vu (qnb_r _ _ _ _) wl tl f2 p2 (by
          have : (qpk (qnb fld o r 1) (m0 97 i)).length ≤ 3 := by
            unfold qpk
            split
            · show 1 ≤ 3; decide
            · show 3 ≤ 3; decide
          simp only [List.length_append]
          show T.length + _ + 1 + _ + 1 ≤ 190
          omega) (by omega)
        obtain ⟨m4, r4, p4, f4⟩ := rt_cell (e + 1) S fld (qcs o) _ _ m3 vu (by omega) hK (qFz_P hP0 g3) p3 hcs (by
          have : (qpk (qnb fld o r 1) (m0 97 i)).length ≤ 3 := by
            unfold qpk
            split
            · show 1 ≤ 3; decide
            · show 3 ≤ 3; decide
          simp only [List.length_append]
          omega) (by simp only [List.length_append]; omega)
        have g4 := qFz_t g3 f4
        obtain ⟨m5, r5, p5, g5⟩ := part _ r _ _ _ m4 vu (qnb_r _ _ _ _) wr tr g4 p4 (by omega) (by simp only [List.length_append]; show L.length + _ + 1 + _ + 2 ≤ 390; omega)
        refine ⟨m5, by rw [hd, r3, r4, r5], ?_, qFz_t f0 g5⟩
        rw [show L ++ (qbk (qnb fld o l 0) (qpr fld l) ++ [qcs o] ++ qbk (qnb fld o r 1) (qpr fld r)) = L ++ qbk (qnb fld o l 0) (qpr fld l) ++ [qcs o] ++ qbk (qnb fld o r 1) (qpr fld r) by simp]
        exact p5
