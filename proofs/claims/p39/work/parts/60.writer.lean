/-! The reference writes the word at hand. -/
/-- the word at hand, of either kind -/
def qRx (m : Int → Int → Int) (W : List Int) (P dg st bg mk : Int) : Prop := m 37 36 = W.length ∧ m 37 38 = P ∧ m 37 32 = st ∧ m 37 33 = dg ∧ m 37 34 = bg ∧ m 37 37 = mk ∧ ∀ j, 0 ≤ j → j < (W.length : Int) → m 64 j = qnth W j + if dg = 1 then 48 else 97
theorem qRx_f {m m' : Int → Int → Int} {W : List Int} {P dg st bg mk : Int} {A J : List Int} (h : qRx m W P dg st bg mk) (f : qfr A J m m') (g : (J.all fun j => !(decide (j = 32) || decide (j = 33) || decide (j = 34) || decide (j = 36) || decide (j = 37) || decide (j = 38))) = true) (g2 : 64 ∉ A) : qRx m' W P dg st bg mk := by
  obtain ⟨h1, h2, h3, h4, h5, h6, h7⟩ := h
  have hj : ∀ j, (decide (j = 32) || decide (j = 33) || decide (j = 34) || decide (j = 36) || decide (j = 37) || decide (j = 38)) = true → j ∉ J := fun j e q => by
    have := List.all_eq_true.mp g j q
    rw [e] at this
    exact absurd this (by decide)
  exact ⟨by rw [f.2 36 (hj 36 (by decide)), h1], by rw [f.2 38 (hj 38 (by decide)), h2], by rw [f.2 32 (hj 32 (by decide)), h3], by rw [f.2 33 (hj 33 (by decide)), h4], by rw [f.2 34 (hj 34 (by decide)), h5], by rw [f.2 37 (hj 37 (by decide)), h6], fun j j1 j2 => by rw [f.1 64 (by decide) g2]; exact h7 j j1 j2⟩
def qKc (m : Int → Int → Int) (L : List Int) : Prop := m 37 45 = L.length ∧ qA m 67 L
theorem r_keepsCell (d : Nat) (S : zS) (v : Int) (L : List Int) (h : 1 ≤ d) (hK : qK S) (hP : qP (zm S)) (hF : qKc (zm S) L) (hl : L.length < 24) :
    ∃ m', zD d 224 [vr 37, vi v] S = some (.inl none, qW S m') ∧ qKc m' (L ++ [v]) ∧ qfr [67] [45] (zm S) m' := by
  obtain ⟨e, rfl, -⟩ := qd h
  obtain ⟨f1, f2⟩ := hF
  have e1 : qu (zm S) 67 L.length v 37 = zm S 37 := qu_o _ _ _ _ _ (by decide)
  refine ⟨qu (qu (zm S) 67 L.length v) 37 45 (L.length + 1), ?_, ⟨?_, ?_⟩, ?_⟩
  · simp (config := { maxSteps := 2000000 }) (disch := first | omega | (simp only [K_37 hK, K_67 hK, P_37_44 hP, P_37_44 hP, f1, e1, qb_in, qkW, qmW, qnW, true_and, and_true, or_self, true_or, or_true, and_self]; done) | (simp only [K_37 hK, K_67 hK, P_37_44 hP, P_37_44 hP, f1, e1, qb_in, qkW, qmW, qnW, true_and, and_true, or_self, true_or, or_true, and_self]; omega)) only [zD_224, b224_0, b224_16, qcall_l, qcall_r, qretn_l, qJ_s, qJ_n, qV0, qEx, ↓qif0, ↓zchk_pos, ↓reduceIte, qput, qWW, qmW, qkW, qnW, K_37 hK, K_67 hK, P_37_44 hP, P_37_44 hP, f1, e1, q32]
  · rw [qu_s, List.length_append]; rfl
  · exact qA_o (qA_push f2 v) (qu_o _ _ _ _ _ (by decide))
  · exact qfr_t' (qfr_a _ _ _ _ (by decide) (by simp)) (qfr_j _ _ _ (by simp)) (fun _ h => h) fun _ h => h
theorem r_writes (d : Nat) (S : zS) (c N g P dg st bg mk : Int) (T : Int → Int → Int) (W : List Int) (h : 7 ≤ d) (hK : qK S) (hP : qP (zm S)) (hc : qRc (zm S) c N T) (hT : qTok T N) (hx : qRx (zm S) W P dg st bg mk) (hW : 0 < W.length ∧ W.length ≤ 10) (hst : st = 0 ∨ st = 1)
    (hdg : (dg = 0 ∧ ∀ i, 0 ≤ i → i < (W.length : Int) → 0 ≤ qnth W i ∧ qnth W i < 26) ∨ dg = 1 ∧ bg = 0 ∧ P = 0 ∧ ∀ i, 0 ≤ i → i < (W.length : Int) → 0 ≤ qnth W i ∧ qnth W i ≤ 9) (hbg : 0 ≤ bg ∧ bg ≤ 2) (hmk : mk = 0 ∨ qmk mk) :
    ∃ m', zD d 225 [vr 37, vi c, vi g] S = some (.inl none, qW S m') ∧ qKc m' (qwL T N g W P dg st bg (qmc mk)) ∧ m' 37 46 = (qwS T N g W P dg st bg).length ∧ qFd m' (qwC T N g W P dg) (qwU T N g W P dg) ∧ m' 37 43 = qwM T N g W P dg ∧ qfr [65, 66, 67, 68, 69] [40, 42, 43, 45, 46] (zm S) m' := by
  obtain ⟨e, rfl, h1⟩ := qd h
  have hN := hc.2.2.1
  -- the frame keeps
  have kP : ∀ {m}, qfr [65, 66, 67, 68, 69] [40, 42, 43, 45, 46] (zm S) m → qP m := fun hf => qP_fr hP hf (by decide)
  have kc : ∀ {m}, qfr [65, 66, 67, 68, 69] [40, 42, 43, 45, 46] (zm S) m → qRc m c N T := fun hf => qRc_f hc fun x h5 h6 => hf.1 x (by omega) (by simp only [List.mem_cons, List.not_mem_nil, or_false]; omega)
  have kx : ∀ {m}, qfr [65, 66, 67, 68, 69] [40, 42, 43, 45, 46] (zm S) m → qRx m W P dg st bg mk := fun hf => qRx_f hx hf (by decide) (by decide)
  have hdr : dg = 0 ∨ dg = 1 := by
    rcases hdg with q | q
    · exact Or.inl q.1
    · exact Or.inr q.1
  have hC10 : (qwC T N g W P dg).length ≤ 10 := by
    unfold qwC
    split
    · rw [qdt_l]; exact hW.2
    · split
      · have := (qC1_n (g := g) (P := P) hN.1 hT hW.2).1
        omega
      · rw [qlt_l]; exact hW.2
  have hS4 : (qwS T N g W P dg st bg).length ≤ 4 := by
    unfold qwS qpre
    rw [List.length_append, List.length_append, List.length_replicate]
    have e1 : (if st = 0 then ([] : List Int) else [40]).length ≤ 1 := by split <;> decide
    have e2 : (if dg = 1 then [60] else if qwM T N g W P dg = 0 then [] else ([48] : List Int)).length ≤ 1 := by
      split
      · decide
      · split <;> decide
    omega
  -- the mark
  have hm : ∀ (m : Int → Int → Int) (L : List Int) (x1 x2 x3 : zV), qfr [65, 66, 67, 68, 69] [40, 42, 43, 45, 46] (zm S) m → qKc m L → L.length ≤ 20 →
      ∃ m', zF_225 e 252 [vr 37, x1, x2, x3] [] (qW S m) = some (.inl none, qW S m') ∧ qKc m' (L ++ if qmc mk = 0 then [] else [qmc mk]) ∧ qfr [67] [45] m m' := by
    intro m L x1 x2 x3 hf hL hl
    have e1 := (kx hf).2.2.2.2.2.1
    rw [b225_252]
    by_cases c0 : mk = 0
    · have e2 : qmc mk = 0 := by rw [c0]; rfl
      refine ⟨m, ?_, by rw [if_pos e2, List.append_nil]; exact hL, qfr_r _ _ _⟩
      simp (config := { maxSteps := 2000000 }) (disch := first | omega | (simp only [K_37 hK, qb_in, qkW, qmW, qnW, true_and, and_true, or_self, true_or, or_true, and_self]; done) | (simp only [K_37 hK, qb_in, qkW, qmW, qnW, true_and, and_true, or_self, true_or, or_true, and_self]; omega)) only [b225_0, b225_16, b225_27, b225_33, b225_43, b225_61, b225_73, b225_76, b225_79, b225_83, b225_84, b225_87, b225_94, b225_100, b225_110, b225_116, b225_122, b225_129, b225_136, b225_144, b225_149, b225_151, b225_154, b225_174, b225_182, b225_194, b225_197, b225_206, b225_212, b225_218, b225_236, b225_246, b225_252, b225_259, b225_267, b225_270, qcall_l, qcall_r, qretn_l, qJ_s, qJ_n, qV0, qEx, ↓qif0, ↓zchk_pos, ↓reduceIte, qput, qWW, qmW, qkW, qnW, K_37 hK, e1, if_pos c0]
    · have hq := hmk.resolve_left c0
      have e2 : ¬ qmc mk = 0 := by rw [qmc_0]; exact fun z => z hq
      obtain ⟨m1, r1, p1, f1⟩ := r_keepsCell e (qW S m) (qmc mk) L (by omega) hK (kP hf) hL (by omega)
      have cm := r_cellOfMark e mk (qW S m) (by omega) hq
      refine ⟨m1, ?_, by rw [if_neg e2]; exact p1, f1⟩
      simp (config := { maxSteps := 2000000 }) (disch := first | omega | (simp only [K_37 hK, qb_in, qkW, qmW, qnW, true_and, and_true, or_self, true_or, or_true, and_self]; done) | (simp only [K_37 hK, qb_in, qkW, qmW, qnW, true_and, and_true, or_self, true_or, or_true, and_self]; omega)) only [b225_0, b225_16, b225_27, b225_33, b225_43, b225_61, b225_73, b225_76, b225_79, b225_83, b225_84, b225_87, b225_94, b225_100, b225_110, b225_116, b225_122, b225_129, b225_136, b225_144, b225_149, b225_151, b225_154, b225_174, b225_182, b225_194, b225_197, b225_206, b225_212, b225_218, b225_236, b225_246, b225_252, b225_259, b225_267, b225_270, qcall_l, qcall_r, qretn_l, qJ_s, qJ_n, qV0, qEx, ↓qif0, ↓zchk_pos, ↓reduceIte, qput, qWW, qmW, qkW, qnW, K_37 hK, e1, if_neg c0, cm, r1]
  -- the cells that were found
  have hcl : ∀ (f i : Nat) (m : Int → Int → Int) (C : List (Int × Int)) (u : Int) (L0 : List Int) (x1 x2 : zV), i + f = C.length → qfr [65, 66, 67, 68, 69] [40, 42, 43, 45, 46] (zm S) m → qFd m C u → L0.length ≤ 4 → C.length ≤ 10 → qKc m (L0 ++ (C.map Prod.fst).take i) →
      ∃ m', zF_225 e 228 [vr 37, x1, x2, vi (i : Int)] [] (qW S m) = some (.inl none, qW S m') ∧ qKc m' (L0 ++ C.map Prod.fst ++ if qmc mk = 0 then [] else [qmc mk]) ∧ qfr [67] [45] m m' := by
    intro f
    induction f with
    | zero =>
      intro i m C u L0 x1 x2 h2 hf hF hl0 hl hL
      have hi : i = C.length := by omega
      rw [hi, show C.length = (C.map Prod.fst).length by rw [List.length_map], List.take_length] at hL
      obtain ⟨m1, r1, p1, f1⟩ := hm m _ vu vu (vi i) hf hL (by rw [List.length_append, List.length_map]; omega)
      refine ⟨m1, ?_, p1, f1⟩
      rw [b225_228]
      simp (config := { maxSteps := 2000000 }) (disch := first | omega | (simp only [K_37 hK, qb_in, qkW, qmW, qnW, true_and, and_true, or_self, true_or, or_true, and_self]; done) | (simp only [K_37 hK, qb_in, qkW, qmW, qnW, true_and, and_true, or_self, true_or, or_true, and_self]; omega)) only [b225_0, b225_16, b225_27, b225_33, b225_43, b225_61, b225_73, b225_76, b225_79, b225_83, b225_84, b225_87, b225_94, b225_100, b225_110, b225_116, b225_122, b225_129, b225_136, b225_144, b225_149, b225_151, b225_154, b225_174, b225_182, b225_194, b225_197, b225_206, b225_212, b225_218, b225_236, b225_246, b225_259, b225_267, b225_270, qcall_l, qcall_r, qretn_l, qJ_s, qJ_n, qV0, qEx, ↓qif0, ↓zchk_pos, ↓reduceIte, qput, qWW, qmW, qkW, qnW, K_37 hK, hF.1, if_neg (show ¬ (i : Int) < C.length by omega)]
      exact r1
    | succ f ih =>
      intro i m C u L0 x1 x2 h2 hf hF hl0 hl hL
      have g1 := qA_n hF.2.2.1 i (by omega) (by rw [List.length_map]; omega)
      have hlt : i < (C.map Prod.fst).length := by rw [List.length_map]; omega
      have et : (C.map Prod.fst).take i ++ [qnth (C.map Prod.fst) i] = (C.map Prod.fst).take (i + 1) := by
        rw [List.take_succ_eq_append_getElem hlt]
        congr 2
        unfold qnth
        rw [List.getD_eq_getElem?_getD, show ((i : Int)).toNat = i by omega, List.getElem?_eq_getElem hlt]
        rfl
      obtain ⟨m1, r1, p1, f1⟩ := r_keepsCell e (qW S m) (qnth (C.map Prod.fst) i) _ (by omega) hK (kP hf) hL (by rw [List.length_append, List.length_take]; omega)
      rw [List.append_assoc, et] at p1
      have hF1 : qFd m1 C u := ⟨by rw [f1.2 40 (by decide)]; exact hF.1, by rw [f1.2 42 (by decide)]; exact hF.2.1, qA_o hF.2.2.1 (f1.1 65 (by decide) (by decide)), qA_o hF.2.2.2 (f1.1 66 (by decide) (by decide))⟩
      obtain ⟨m2, r2, p2, f2⟩ := ih (i + 1) m1 C u L0 vu vu (by omega) (qfr_t' hf f1 (by decide) (by decide)) hF1 hl0 hl p1
      refine ⟨m2, ?_, p2, qfr_t' f1 f2 (by decide) (by decide)⟩
      rw [b225_228]
      simp (config := { maxSteps := 2000000 }) (disch := first | omega | (simp only [K_37 hK, K_65 hK, P_37_39 hP, P_37_39 (kP hf), qb_in, qkW, qmW, qnW, true_and, and_true, or_self, true_or, or_true, and_self]; done) | (simp only [K_37 hK, K_65 hK, P_37_39 hP, P_37_39 (kP hf), qb_in, qkW, qmW, qnW, true_and, and_true, or_self, true_or, or_true, and_self]; omega)) only [b225_0, b225_16, b225_27, b225_33, b225_43, b225_61, b225_73, b225_76, b225_79, b225_83, b225_84, b225_87, b225_94, b225_100, b225_110, b225_116, b225_122, b225_129, b225_136, b225_144, b225_149, b225_151, b225_154, b225_174, b225_182, b225_194, b225_197, b225_206, b225_212, b225_218, b225_236, b225_246, b225_259, b225_267, b225_270, qcall_l, qcall_r, qretn_l, qJ_s, qJ_n, qV0, qEx, ↓qif0, ↓zchk_pos, ↓reduceIte, qput, qWW, qmW, qkW, qnW, K_37 hK, K_65 hK, P_37_39 hP, P_37_39 (kP hf), hF.1, g1, if_pos (show (i : Int) < C.length by omega), r1, q32]
      exact r2
  -- from the number of signs on
  have hsg : ∀ (m : Int → Int → Int) (C : List (Int × Int)) (u : Int) (L0 : List Int) (x1 x2 x3 : zV), qfr [65, 66, 67, 68, 69] [40, 42, 43, 45, 46] (zm S) m → qFd m C u → L0.length ≤ 4 → C.length ≤ 10 → qKc m L0 →
      ∃ m', zF_225 e 218 [vr 37, x1, x2, x3] [] (qW S m) = some (.inl none, qW S m') ∧ qKc m' (L0 ++ C.map Prod.fst ++ if qmc mk = 0 then [] else [qmc mk]) ∧ m' 37 46 = L0.length ∧ qFd m' C u ∧ m' 37 43 = m 37 43 ∧ qfr [65, 66, 67, 68, 69] [40, 42, 43, 45, 46] (zm S) m' := by
    intro m C u L0 x1 x2 x3 hf hF hl0 hl hL
    have f0 : qfr [65, 66, 67, 68, 69] [40, 42, 43, 45, 46] m (qu m 37 46 L0.length) := qfr_j _ _ _ (by decide)
    have hF0 : qFd (qu m 37 46 L0.length) C u := ⟨by rw [qu_i _ _ _ _ _ (by decide)]; exact hF.1, by rw [qu_i _ _ _ _ _ (by decide)]; exact hF.2.1, qA_u hF.2.2.1 _ _ _ (Or.inl (by decide)), qA_u hF.2.2.2 _ _ _ (Or.inl (by decide))⟩
    have hL0 : qKc (qu m 37 46 L0.length) (L0 ++ (C.map Prod.fst).take 0) := by
      rw [List.take_zero, List.append_nil]
      exact ⟨by rw [qu_i _ _ _ _ _ (by decide)]; exact hL.1, qA_u hL.2 _ _ _ (Or.inl (by decide))⟩
    obtain ⟨m1, r1, p1, f1⟩ := hcl C.length 0 _ C u L0 vu vu (by omega) (qfr_t' hf f0 (fun _ h => h) fun _ h => h) hF0 hl0 hl hL0
    refine ⟨m1, ?_, p1, ?_, ?_, ?_, qfr_t' (qfr_t' hf f0 (fun _ h => h) fun _ h => h) f1 (by decide) (by decide)⟩
    · rw [b225_218]
      simp (config := { maxSteps := 2000000 }) (disch := first | omega | (simp only [K_37 hK, qb_in, qkW, qmW, qnW, true_and, and_true, or_self, true_or, or_true, and_self]; done) | (simp only [K_37 hK, qb_in, qkW, qmW, qnW, true_and, and_true, or_self, true_or, or_true, and_self]; omega)) only [b225_0, b225_16, b225_27, b225_33, b225_43, b225_61, b225_73, b225_76, b225_79, b225_83, b225_84, b225_87, b225_94, b225_100, b225_110, b225_116, b225_122, b225_129, b225_136, b225_144, b225_149, b225_151, b225_154, b225_174, b225_182, b225_194, b225_197, b225_206, b225_212, b225_218, b225_236, b225_246, b225_259, b225_267, b225_270, qcall_l, qcall_r, qretn_l, qJ_s, qJ_n, qV0, qEx, ↓qif0, ↓zchk_pos, ↓reduceIte, qput, qWW, qmW, qkW, qnW, K_37 hK, hL.1]
      exact r1
    · rw [f1.2 46 (by decide), qu_s]
    · exact ⟨by rw [f1.2 40 (by decide)]; exact hF0.1, by rw [f1.2 42 (by decide)]; exact hF0.2.1, qA_o hF0.2.2.1 (f1.1 65 (by decide) (by decide)), qA_o hF0.2.2.2 (f1.1 66 (by decide) (by decide))⟩
    · rw [f1.2 43 (by decide), qu_i _ _ _ _ _ (by decide)]
  -- single letters, digits
  have hsl : ∀ (f i : Nat) (m : Int → Int → Int) (L0 : List Int) (x1 x2 : zV), i + f = W.length → qfr [65, 66, 67, 68, 69] [40, 42, 43, 45, 46] (zm S) m → qFd m (if dg = 1 then qdt (qnth W) i else qlt (qnth W) i) 0 → L0.length ≤ 4 → qKc m L0 →
      ∃ m', zF_225 e 166 [vr 37, x1, x2, vi (i : Int)] [] (qW S m) = some (.inl none, qW S m') ∧ qKc m' (L0 ++ (if dg = 1 then qdt (qnth W) W.length else qlt (qnth W) W.length).map Prod.fst ++ if qmc mk = 0 then [] else [qmc mk]) ∧ m' 37 46 = L0.length ∧ qFd m' (if dg = 1 then qdt (qnth W) W.length else qlt (qnth W) W.length) 0 ∧ m' 37 43 = m 37 43 ∧ qfr [65, 66, 67, 68, 69] [40, 42, 43, 45, 46] (zm S) m' := by
    intro f
    induction f with
    | zero =>
      intro i m L0 x1 x2 h2 hf hF hl0 hL
      have hi : i = W.length := by omega
      rw [hi] at hF
      obtain ⟨m1, r1, p1⟩ := hsg m _ 0 L0 vu vu (vi i) hf hF hl0 (by
        split
        · rw [qdt_l]; exact hW.2
        · rw [qlt_l]; exact hW.2) hL
      refine ⟨m1, ?_, p1⟩
      rw [b225_166]
      simp (config := { maxSteps := 2000000 }) (disch := first | omega | (simp only [K_37 hK, qb_in, qkW, qmW, qnW, true_and, and_true, or_self, true_or, or_true, and_self]; done) | (simp only [K_37 hK, qb_in, qkW, qmW, qnW, true_and, and_true, or_self, true_or, or_true, and_self]; omega)) only [b225_0, b225_16, b225_27, b225_33, b225_43, b225_61, b225_73, b225_76, b225_79, b225_83, b225_84, b225_87, b225_94, b225_100, b225_110, b225_116, b225_122, b225_129, b225_136, b225_144, b225_149, b225_151, b225_154, b225_174, b225_182, b225_194, b225_197, b225_206, b225_212, b225_236, b225_246, b225_252, b225_259, b225_267, b225_270, qcall_l, qcall_r, qretn_l, qJ_s, qJ_n, qV0, qEx, ↓qif0, ↓zchk_pos, ↓reduceIte, qput, qWW, qmW, qkW, qnW, K_37 hK, (kx hf).1, if_neg (show ¬ (i : Int) < W.length by omega)]
      exact r1
    | succ f ih =>
      intro i m L0 x1 x2 h2 hf hF hl0 hL
      obtain ⟨X1, X2, X3, X4, X5, X6, X7⟩ := kx hf
      have g1 := X7 i (by omega) (by omega)
      rcases hdg with ⟨hd0, hWr⟩ | ⟨hd1, -, -, hWr⟩
      · have hd1 : ¬ dg = 1 := by omega
        have g2 := hWr i (by omega) (by omega)
        rw [if_neg hd1] at g1 hF
        have co := r_cellOf e (qW S m) (qnth W i + 97) (by omega) (by omega)
        rw [show qnth W i + 97 - 97 = qnth W i by omega] at co
        obtain ⟨m1, r1, p1, f1⟩ := r_findsCell e (qW S m) (qlc (qnth W i)) (i + 1) 0 _ (by omega) hK (kP hf) hF (by rw [qlt_l]; omega)
        obtain ⟨m2, r2, p2⟩ := ih (i + 1) m1 L0 vu vu (by omega) (qfr_t' hf f1 (by decide) (by decide)) (by rw [if_neg hd1]; exact p1) hl0 ⟨by rw [f1.2 45 (by decide)]; exact hL.1, qA_o hL.2 (f1.1 67 (by decide) (by decide))⟩
        rw [show m1 37 43 = m 37 43 from f1.2 43 (by decide)] at p2
        refine ⟨m2, ?_, p2⟩
        rw [b225_166]
        simp (config := { maxSteps := 2000000 }) (disch := first | omega | (simp only [K_37 hK, K_64 hK, P_37_35 hP, P_37_35 (kP hf), qb_in, qkW, qmW, qnW, true_and, and_true, or_self, true_or, or_true, and_self]; done) | (simp only [K_37 hK, K_64 hK, P_37_35 hP, P_37_35 (kP hf), qb_in, qkW, qmW, qnW, true_and, and_true, or_self, true_or, or_true, and_self]; omega)) only [b225_0, b225_16, b225_27, b225_33, b225_43, b225_61, b225_73, b225_76, b225_79, b225_83, b225_84, b225_87, b225_94, b225_100, b225_110, b225_116, b225_122, b225_129, b225_136, b225_144, b225_149, b225_151, b225_154, b225_174, b225_182, b225_194, b225_197, b225_206, b225_212, b225_236, b225_246, b225_252, b225_259, b225_267, b225_270, qcall_l, qcall_r, qretn_l, qJ_s, qJ_n, qV0, qEx, ↓qif0, ↓zchk_pos, ↓reduceIte, qput, qWW, qmW, qkW, qnW, K_37 hK, K_64 hK, P_37_35 hP, P_37_35 (kP hf), X1, X4, g1, if_pos (show (i : Int) < W.length by omega), if_pos hd0, co, r1, q32]
        exact r2
      · have hd0 : ¬ dg = 0 := by omega
        have g2 := hWr i (by omega) (by omega)
        rw [if_pos hd1] at g1 hF
        have co := r_cellOfDigit e (qW S m) (qnth W i) (by omega) (by omega)
        obtain ⟨m1, r1, p1, f1⟩ := r_findsCell e (qW S m) (qlc (if qnth W i = 0 then 9 else qnth W i - 1)) (i + 1) 0 _ (by omega) hK (kP hf) hF (by rw [qdt_l]; omega)
        obtain ⟨m2, r2, p2⟩ := ih (i + 1) m1 L0 vu vu (by omega) (qfr_t' hf f1 (by decide) (by decide)) (by rw [if_pos hd1]; exact p1) hl0 ⟨by rw [f1.2 45 (by decide)]; exact hL.1, qA_o hL.2 (f1.1 67 (by decide) (by decide))⟩
        rw [show m1 37 43 = m 37 43 from f1.2 43 (by decide)] at p2
        refine ⟨m2, ?_, p2⟩
        rw [b225_166]
        simp (config := { maxSteps := 2000000 }) (disch := first | omega | (simp only [K_37 hK, K_64 hK, P_37_35 hP, P_37_35 (kP hf), qb_in, qkW, qmW, qnW, true_and, and_true, or_self, true_or, or_true, and_self]; done) | (simp only [K_37 hK, K_64 hK, P_37_35 hP, P_37_35 (kP hf), qb_in, qkW, qmW, qnW, true_and, and_true, or_self, true_or, or_true, and_self]; omega)) only [b225_0, b225_16, b225_27, b225_33, b225_43, b225_61, b225_73, b225_76, b225_79, b225_83, b225_84, b225_87, b225_94, b225_100, b225_110, b225_116, b225_122, b225_129, b225_136, b225_144, b225_149, b225_151, b225_154, b225_174, b225_182, b225_194, b225_197, b225_206, b225_212, b225_236, b225_246, b225_252, b225_259, b225_267, b225_270, qcall_l, qcall_r, qretn_l, qJ_s, qJ_n, qV0, qEx, ↓qif0, ↓zchk_pos, ↓reduceIte, qput, qWW, qmW, qkW, qnW, K_37 hK, K_64 hK, P_37_35 hP, P_37_35 (kP hf), X1, X4, g1, if_pos (show (i : Int) < W.length by omega), if_neg hd0, q32, show qnth W i + 48 - 48 = qnth W i by omega, co, r1]
        exact r2
  -- behind the great letters
  have hbh : ∀ (m : Int → Int → Int) (x1 x2 x3 : zV), qfr [65, 66, 67, 68, 69] [40, 42, 43, 45, 46] (zm S) m → qKc m (qpre st bg) → m 37 43 = qwM T N g W P dg → (dg = 0 → qwM T N g W P dg = 0 → qFd m (qC1 T N g W P) (qU1 T N g W P)) →
      ∃ m', zF_225 e 122 [vr 37, x1, x2, x3] [] (qW S m) = some (.inl none, qW S m') ∧ qKc m' (qwL T N g W P dg st bg (qmc mk)) ∧ m' 37 46 = (qwS T N g W P dg st bg).length ∧ qFd m' (qwC T N g W P dg) (qwU T N g W P dg) ∧ m' 37 43 = qwM T N g W P dg ∧ qfr [65, 66, 67, 68, 69] [40, 42, 43, 45, 46] (zm S) m' := by
    intro m x1 x2 x3 hf hL hM hF
    obtain ⟨X1, X2, X3, X4, X5, X6, X7⟩ := kx hf
    have hpl : (qpre st bg).length ≤ 3 := by
      unfold qpre
      rw [List.length_append, List.length_replicate]
      split
      · show 0 + _ ≤ 3; omega
      · show 1 + _ ≤ 3; omega
    rw [b225_122]
    by_cases c0 : dg = 0 ∧ qwM T N g W P dg = 0
    · obtain ⟨hd0, hM0⟩ := c0
      have hd1 : ¬ dg = 1 := by omega
      have eS : qwS T N g W P dg st bg = qpre st bg := by unfold qwS; rw [if_neg hd1, if_pos hM0, List.append_nil]
      have eC : qwC T N g W P dg = qC1 T N g W P := by unfold qwC; rw [if_neg hd1, if_pos hM0]
      have eU : qwU T N g W P dg = qU1 T N g W P := by unfold qwU; rw [if_neg hd1, if_pos hM0]
      obtain ⟨m1, r1, p1, p2, p3, p4, p5⟩ := hsg m _ _ (qpre st bg) vu vu vu hf (hF hd0 hM0) (by omega) (by rw [← eC]; exact hC10) hL
      refine ⟨m1, ?_, ?_, by rw [eS]; exact p2, by rw [eC, eU]; exact p3, by rw [p4]; exact hM, p5⟩
      · simp (config := { maxSteps := 2000000 }) (disch := first | omega | (simp only [K_37 hK, qb_in, qkW, qmW, qnW, true_and, and_true, or_self, true_or, or_true, and_self]; done) | (simp only [K_37 hK, qb_in, qkW, qmW, qnW, true_and, and_true, or_self, true_or, or_true, and_self]; omega)) only [b225_0, b225_16, b225_27, b225_33, b225_43, b225_61, b225_73, b225_76, b225_79, b225_83, b225_84, b225_87, b225_94, b225_100, b225_110, b225_116, b225_122, b225_129, b225_136, b225_144, b225_149, b225_151, b225_154, b225_174, b225_182, b225_194, b225_197, b225_206, b225_212, b225_236, b225_246, b225_252, b225_259, b225_267, b225_270, qcall_l, qcall_r, qretn_l, qJ_s, qJ_n, qV0, qEx, ↓qif0, ↓zchk_pos, ↓reduceIte, qput, qWW, qmW, qkW, qnW, K_37 hK, X4, hM, if_pos hd0, if_pos hM0]
        exact r1
      · unfold qwL
        rw [eS, eC]
        exact p1
    · have eS : qwS T N g W P dg st bg = qpre st bg ++ [if dg = 1 then 60 else 48] := by
        unfold qwS
        by_cases hd1 : dg = 1
        · rw [if_pos hd1, if_pos hd1]
        · rw [if_neg hd1, if_neg hd1, if_neg fun q => c0 ⟨hdr.resolve_right hd1, q⟩]
      have eC : qwC T N g W P dg = if dg = 1 then qdt (qnth W) W.length else qlt (qnth W) W.length := by
        unfold qwC
        by_cases hd1 : dg = 1
        · rw [if_pos hd1, if_pos hd1]
        · rw [if_neg hd1, if_neg hd1, if_neg fun q => c0 ⟨hdr.resolve_right hd1, q⟩]
      have eU : qwU T N g W P dg = 0 := by
        unfold qwU
        by_cases hd1 : dg = 1
        · rw [if_pos hd1]
        · rw [if_neg hd1, if_neg fun q => c0 ⟨hdr.resolve_right hd1, q⟩]
      obtain ⟨m0, r0, p0, f0⟩ := r_keepsCell e (qW S m) (if dg = 1 then 60 else 48) _ (by omega) hK (kP hf) hL (by omega)
      have f1 : qfr [65, 66, 67, 68, 69] [40, 42, 43, 45, 46] m0 (qu (qu m0 37 40 0) 37 42 0) := qfr_t' (qfr_j _ _ _ (by decide)) (qfr_j (A := [65, 66, 67, 68, 69]) (J := [40, 42, 43, 45, 46]) _ _ _ (by decide)) (fun _ h => h) fun _ h => h
      have hf1 := qfr_t' (qfr_t' hf f0 (by decide) (by decide)) f1 (fun _ h => h) fun _ h => h
      obtain ⟨m1, r1, p1, p2, p3, p4, p5⟩ := hsl W.length 0 (qu (qu m0 37 40 0) 37 42 0) (qpre st bg ++ [if dg = 1 then 60 else 48]) vu vu (by omega) hf1 (by
        have : (if dg = 1 then qdt (qnth W) 0 else qlt (qnth W) 0) = [] := by split <;> rfl
        rw [this]
        exact ⟨by rw [qu_i _ _ _ _ _ (by decide), qu_s]; rfl, qu_s _ _ _ _, qA_nil _ _, qA_nil _ _⟩) (by rw [List.length_append]; show _ + 1 ≤ 4; omega) ⟨by rw [qu_i _ _ _ _ _ (by decide), qu_i _ _ _ _ _ (by decide)]; exact p0.1, qA_u (qA_u p0.2 _ _ _ (Or.inl (by decide))) _ _ _ (Or.inl (by decide))⟩
      refine ⟨m1, ?_, ?_, by rw [eS]; exact p2, by rw [eC, eU]; exact p3, ?_, p5⟩
      · by_cases hd1 : dg = 1
        · rw [if_pos hd1] at r0
          simp (config := { maxSteps := 2000000 }) (disch := first | omega | (simp only [K_37 hK, qb_in, qkW, qmW, qnW, true_and, and_true, or_self, true_or, or_true, and_self]; done) | (simp only [K_37 hK, qb_in, qkW, qmW, qnW, true_and, and_true, or_self, true_or, or_true, and_self]; omega)) only [b225_0, b225_16, b225_27, b225_33, b225_43, b225_61, b225_73, b225_76, b225_79, b225_83, b225_84, b225_87, b225_94, b225_100, b225_110, b225_116, b225_122, b225_129, b225_136, b225_144, b225_149, b225_151, b225_154, b225_174, b225_182, b225_194, b225_197, b225_206, b225_212, b225_236, b225_246, b225_252, b225_259, b225_267, b225_270, qcall_l, qcall_r, qretn_l, qJ_s, qJ_n, qV0, qEx, ↓qif0, ↓zchk_pos, ↓reduceIte, qput, qWW, qmW, qkW, qnW, K_37 hK, X4, hM, if_neg (show ¬ dg = 0 by omega), r0]
          exact r1
        · have hM0 : ¬ qwM T N g W P dg = 0 := fun q => c0 ⟨hdr.resolve_right hd1, q⟩
          rw [if_neg hd1] at r0
          simp (config := { maxSteps := 2000000 }) (disch := first | omega | (simp only [K_37 hK, qb_in, qkW, qmW, qnW, true_and, and_true, or_self, true_or, or_true, and_self]; done) | (simp only [K_37 hK, qb_in, qkW, qmW, qnW, true_and, and_true, or_self, true_or, or_true, and_self]; omega)) only [b225_0, b225_16, b225_27, b225_33, b225_43, b225_61, b225_73, b225_76, b225_79, b225_83, b225_84, b225_87, b225_94, b225_100, b225_110, b225_116, b225_122, b225_129, b225_136, b225_144, b225_149, b225_151, b225_154, b225_174, b225_182, b225_194, b225_197, b225_206, b225_212, b225_236, b225_246, b225_252, b225_259, b225_267, b225_270, qcall_l, qcall_r, qretn_l, qJ_s, qJ_n, qV0, qEx, ↓qif0, ↓zchk_pos, ↓reduceIte, qput, qWW, qmW, qkW, qnW, K_37 hK, X4, hM, if_pos (show dg = 0 by omega), if_neg hM0, r0]
          exact r1
      · unfold qwL
        rw [eS, eC]
        exact p1
      · rw [p4, qu_i _ _ _ _ _ (by decide), qu_i _ _ _ _ _ (by decide), f0.2 43 (by decide)]
        exact hM
  -- great letters
  have hgl : ∀ (f i : Nat) (m : Int → Int → Int) (x1 x2 : zV), (i : Int) + f = bg → qfr [65, 66, 67, 68, 69] [40, 42, 43, 45, 46] (zm S) m → qKc m (qpre st i) → m 37 43 = qwM T N g W P dg → (dg = 0 → qwM T N g W P dg = 0 → qFd m (qC1 T N g W P) (qU1 T N g W P)) →
      ∃ m', zF_225 e 102 [vr 37, x1, x2, vi i] [] (qW S m) = some (.inl none, qW S m') ∧ qKc m' (qwL T N g W P dg st bg (qmc mk)) ∧ m' 37 46 = (qwS T N g W P dg st bg).length ∧ qFd m' (qwC T N g W P dg) (qwU T N g W P dg) ∧ m' 37 43 = qwM T N g W P dg ∧ qfr [65, 66, 67, 68, 69] [40, 42, 43, 45, 46] (zm S) m' := by
    intro f
    induction f with
    | zero =>
      intro i m x1 x2 h2 hf hL hM hF
      have hi : (i : Int) = bg := by omega
      rw [hi] at hL ⊢
      obtain ⟨m1, r1, p1⟩ := hbh m vu vu (vi bg) hf hL hM hF
      refine ⟨m1, ?_, p1⟩
      rw [b225_102]
      simp (config := { maxSteps := 2000000 }) (disch := first | omega | (simp only [K_37 hK, qb_in, qkW, qmW, qnW, true_and, and_true, or_self, true_or, or_true, and_self]; done) | (simp only [K_37 hK, qb_in, qkW, qmW, qnW, true_and, and_true, or_self, true_or, or_true, and_self]; omega)) only [b225_0, b225_16, b225_27, b225_33, b225_43, b225_61, b225_73, b225_76, b225_79, b225_83, b225_84, b225_87, b225_94, b225_100, b225_110, b225_116, b225_129, b225_136, b225_144, b225_149, b225_151, b225_154, b225_174, b225_182, b225_194, b225_197, b225_206, b225_212, b225_218, b225_236, b225_246, b225_252, b225_259, b225_267, b225_270, qcall_l, qcall_r, qretn_l, qJ_s, qJ_n, qV0, qEx, ↓qif0, ↓zchk_pos, ↓reduceIte, qput, qWW, qmW, qkW, qnW, K_37 hK, (kx hf).2.2.2.2.1, Int.lt_irrefl]
      exact r1
    | succ f ih =>
      intro i m x1 x2 h2 hf hL hM hF
      have hli : (qpre st i).length ≤ 10 := by
        unfold qpre
        rw [List.length_append, List.length_replicate]
        split
        · show 0 + _ ≤ 10; omega
        · show 1 + _ ≤ 10; omega
      obtain ⟨m1, r1, p1, f1⟩ := r_keepsCell e (qW S m) 32 _ (by omega) hK (kP hf) hL (by omega)
      have ep : qpre st i ++ [32] = qpre st ((i + 1 : Nat) : Int) := by
        unfold qpre
        rw [List.append_assoc]
        congr 1
        rw [show (((i + 1 : Nat) : Int)).toNat = ((i : Int)).toNat + 1 by omega, List.replicate_succ']
      rw [ep] at p1
      obtain ⟨m2, r2, p2⟩ := ih (i + 1) m1 vu vu (by omega) (qfr_t' hf f1 (by decide) (by decide)) p1 (by rw [f1.2 43 (by decide)]; exact hM) (fun d0 M0 => by
        have hF := hF d0 M0
        exact ⟨by rw [f1.2 40 (by decide)]; exact hF.1, by rw [f1.2 42 (by decide)]; exact hF.2.1, qA_o hF.2.2.1 (f1.1 65 (by decide) (by decide)), qA_o hF.2.2.2 (f1.1 66 (by decide) (by decide))⟩)
      refine ⟨m2, ?_, p2⟩
      rw [b225_102]
      simp (config := { maxSteps := 2000000 }) (disch := first | omega | (simp only [K_37 hK, qb_in, qkW, qmW, qnW, true_and, and_true, or_self, true_or, or_true, and_self]; done) | (simp only [K_37 hK, qb_in, qkW, qmW, qnW, true_and, and_true, or_self, true_or, or_true, and_self]; omega)) only [b225_0, b225_16, b225_27, b225_33, b225_43, b225_61, b225_73, b225_76, b225_79, b225_83, b225_84, b225_87, b225_94, b225_100, b225_110, b225_116, b225_129, b225_136, b225_144, b225_149, b225_151, b225_154, b225_174, b225_182, b225_194, b225_197, b225_206, b225_212, b225_218, b225_236, b225_246, b225_252, b225_259, b225_267, b225_270, qcall_l, qcall_r, qretn_l, qJ_s, qJ_n, qV0, qEx, ↓qif0, ↓zchk_pos, ↓reduceIte, qput, qWW, qmW, qkW, qnW, K_37 hK, (kx hf).2.2.2.2.1, if_pos (show (i : Int) < bg by omega), r1, q32]
      exact r2
  -- the star
  have hst : ∀ (m : Int → Int → Int) (x1 x2 x3 : zV), qfr [65, 66, 67, 68, 69] [40, 42, 43, 45, 46] (zm S) m → qKc m [] → m 37 43 = qwM T N g W P dg → (dg = 0 → qwM T N g W P dg = 0 → qFd m (qC1 T N g W P) (qU1 T N g W P)) →
      ∃ m', zF_225 e 87 [vr 37, x1, x2, x3] [] (qW S m) = some (.inl none, qW S m') ∧ qKc m' (qwL T N g W P dg st bg (qmc mk)) ∧ m' 37 46 = (qwS T N g W P dg st bg).length ∧ qFd m' (qwC T N g W P dg) (qwU T N g W P dg) ∧ m' 37 43 = qwM T N g W P dg ∧ qfr [65, 66, 67, 68, 69] [40, 42, 43, 45, 46] (zm S) m' := by
    intro m x1 x2 x3 hf hL hM hF
    have X3 := (kx hf).2.2.1
    have ep : qpre st ((0 : Nat) : Int) = if st = 0 then [] else [40] := by
      unfold qpre
      rw [show (((0 : Nat) : Int)).toNat = 0 from rfl, List.replicate_zero, List.append_nil]
    rw [b225_87]
    by_cases c0 : st = 0
    · obtain ⟨m1, r1, p1⟩ := hgl bg.toNat 0 m vu vu (by omega) hf (by rw [ep, if_pos c0]; exact hL) hM hF
      refine ⟨m1, ?_, p1⟩
      simp (config := { maxSteps := 2000000 }) (disch := first | omega | (simp only [K_37 hK, qb_in, qkW, qmW, qnW, true_and, and_true, or_self, true_or, or_true, and_self]; done) | (simp only [K_37 hK, qb_in, qkW, qmW, qnW, true_and, and_true, or_self, true_or, or_true, and_self]; omega)) only [b225_0, b225_16, b225_27, b225_33, b225_43, b225_61, b225_73, b225_76, b225_79, b225_83, b225_84, b225_87, b225_94, b225_100, b225_110, b225_116, b225_129, b225_136, b225_144, b225_149, b225_151, b225_154, b225_174, b225_182, b225_194, b225_197, b225_206, b225_212, b225_218, b225_236, b225_246, b225_252, b225_259, b225_267, b225_270, qcall_l, qcall_r, qretn_l, qJ_s, qJ_n, qV0, qEx, ↓qif0, ↓zchk_pos, ↓reduceIte, qput, qWW, qmW, qkW, qnW, K_37 hK, X3, if_pos c0]
      exact r1
    · obtain ⟨m0, r0, p0, f0⟩ := r_keepsCell e (qW S m) 40 _ (by omega) hK (kP hf) hL (by decide)
      obtain ⟨m1, r1, p1⟩ := hgl bg.toNat 0 m0 vu vu (by omega) (qfr_t' hf f0 (by decide) (by decide)) (by rw [ep, if_neg c0]; exact p0) (by rw [f0.2 43 (by decide)]; exact hM) (fun d0 M0 => by
        have hF := hF d0 M0
        exact ⟨by rw [f0.2 40 (by decide)]; exact hF.1, by rw [f0.2 42 (by decide)]; exact hF.2.1, qA_o hF.2.2.1 (f0.1 65 (by decide) (by decide)), qA_o hF.2.2.2 (f0.1 66 (by decide) (by decide))⟩)
      refine ⟨m1, ?_, p1⟩
      simp (config := { maxSteps := 2000000 }) (disch := first | omega | (simp only [K_37 hK, qb_in, qkW, qmW, qnW, true_and, and_true, or_self, true_or, or_true, and_self]; done) | (simp only [K_37 hK, qb_in, qkW, qmW, qnW, true_and, and_true, or_self, true_or, or_true, and_self]; omega)) only [b225_0, b225_16, b225_27, b225_33, b225_43, b225_61, b225_73, b225_76, b225_79, b225_83, b225_84, b225_87, b225_94, b225_100, b225_110, b225_116, b225_129, b225_136, b225_144, b225_149, b225_151, b225_154, b225_174, b225_182, b225_194, b225_197, b225_206, b225_212, b225_218, b225_236, b225_246, b225_252, b225_259, b225_267, b225_270, qcall_l, qcall_r, qretn_l, qJ_s, qJ_n, qV0, qEx, ↓qif0, ↓zchk_pos, ↓reduceIte, qput, qWW, qmW, qkW, qnW, K_37 hK, X3, if_neg c0, r0]
      exact r1
  -- the row
  have hrw : ∀ (f i : Nat) (m : Int → Int → Int), dg = 0 → i + f = (qC1 T N g W P).length → qfr [65, 66, 67, 68, 69] [40, 42, 43, 45, 46] (zm S) m → qFd m (qC1 T N g W P) (qU1 T N g W P) → qKc m [] → (∀ j : Int, 0 ≤ j → j < i → m 68 j = qnth ((qC1 T N g W P).map Prod.fst) j) →
      ∃ m', zF_225 e 35 [vr 37, vi c, vi g, vi i] [] (qW S m) = some (.inl none, qW S m') ∧ qKc m' (qwL T N g W P dg st bg (qmc mk)) ∧ m' 37 46 = (qwS T N g W P dg st bg).length ∧ qFd m' (qwC T N g W P dg) (qwU T N g W P dg) ∧ m' 37 43 = qwM T N g W P dg ∧ qfr [65, 66, 67, 68, 69] [40, 42, 43, 45, 46] (zm S) m' := by
    have hl1 := (qC1_n (g := g) (P := P) hN.1 hT hW.2).1
    intro f
    induction f with
    | zero =>
      intro i m hd0 h2 hf hF hL hr
      have hd1 : ¬ dg = 1 := by omega
      have hi : i = (qC1 T N g W P).length := by omega
      subst hi
      obtain ⟨m1, v, r1, f1, p1⟩ := r_readsRow e (qW S m) c N g (qC1 T N g W P).length T (qnth ((qC1 T N g W P).map Prod.fst)) (by omega) hK (kP hf) (kc hf) hT hr (by omega)
      rw [show (((qC1 T N g W P).length : Nat) : Int).toNat = (qC1 T N g W P).length by omega] at p1
      have hf1 := qfr_t' hf f1 (by decide) (by decide)
      have X1 := kx hf1
      obtain ⟨u, r2, hu, gu⟩ := r_isSame e (qW S m1) v W.length P (qnth W) (by omega) hK (kP hf1) ⟨X1.1, X1.2.1, fun j j1 j2 => by
        have := X1.2.2.2.2.2.2 j j1 j2
        rw [if_neg hd1] at this
        exact this⟩ (by omega)
      have hOK : qwOK T N g W P ↔ u = 1 := by
        rw [gu]
        unfold qwOK
        rcases p1 with ⟨q1, q2⟩ | ⟨K, q1, q2, q3⟩
        · rw [q1, q2]
          exact ⟨fun z => absurd z (by simp), fun z => by omega⟩
        · rw [q1, q2]
          constructor
          · intro z
            have z : K = W := by simpa using z
            subst z
            refine ⟨rfl, fun j j1 j2 => ?_⟩
            have := qA_n q3 j j1 (by rw [qL9, List.length_map]; omega)
            rw [qmW, this]
            unfold qL9 qnth
            rw [List.getD_eq_getElem?_getD, List.getD_eq_getElem?_getD, List.getElem?_map, List.getElem?_eq_getElem (by omega)]
            rfl
          · intro z
            rw [qnth_x (K := K) (W := W) (by have := z.1; omega) fun j j1 j2 => by
              have g1 := z.2 j j1 (by have := z.1; omega)
              have g2 := qA_n q3 j j1 (by rw [qL9, List.length_map]; omega)
              rw [qmW, g2] at g1
              have g3 : qnth (qL9 K) j = qnth K j + 97 := by
                unfold qL9 qnth
                rw [List.getD_eq_getElem?_getD, List.getD_eq_getElem?_getD, List.getElem?_map, List.getElem?_eq_getElem (by omega)]
                rfl
              omega]
      have eM : qwM T N g W P dg = 1 - u := by
        unfold qwM
        rw [if_neg hd1]
        rcases hu with hu | hu
        · rw [qc_n fun z => by have := hOK.mp z; omega, hu]
        · rw [qc_p (hOK.mpr hu), hu]
      have f2 : qfr [65, 66, 67, 68, 69] [40, 42, 43, 45, 46] m1 (qu m1 37 43 (1 - u)) := qfr_j _ _ _ (by decide)
      have hL1 : qKc m1 [] := ⟨by rw [f1.2 45 (by decide)]; exact hL.1, qA_nil _ _⟩
      obtain ⟨m2, r3, p3⟩ := hst (qu m1 37 43 (1 - u)) vu vu vu (qfr_t' hf1 f2 (fun _ h => h) fun _ h => h) ⟨by rw [qu_i _ _ _ _ _ (by decide)]; exact hL1.1, qA_nil _ _⟩ (by rw [qu_s, eM]) (fun _ _ => ⟨by rw [qu_i _ _ _ _ _ (by decide), f1.2 40 (by decide)]; exact hF.1, by rw [qu_i _ _ _ _ _ (by decide), f1.2 42 (by decide)]; exact hF.2.1, qA_u (qA_o hF.2.2.1 (f1.1 65 (by decide) (by decide))) _ _ _ (Or.inl (by decide)), qA_u (qA_o hF.2.2.2 (f1.1 66 (by decide) (by decide))) _ _ _ (Or.inl (by decide))⟩)
      refine ⟨m2, ?_, p3⟩
      rw [b225_35]
      rcases hu with hu | hu
      · rw [hu] at r2 r3
        simp (config := { maxSteps := 2000000 }) (disch := first | omega | (simp only [K_37 hK, qb_in, qkW, qmW, qnW, true_and, and_true, or_self, true_or, or_true, and_self]; done) | (simp only [K_37 hK, qb_in, qkW, qmW, qnW, true_and, and_true, or_self, true_or, or_true, and_self]; omega)) only [b225_0, b225_16, b225_27, b225_33, b225_43, b225_61, b225_73, b225_76, b225_79, b225_83, b225_84, b225_94, b225_100, b225_110, b225_116, b225_122, b225_129, b225_136, b225_144, b225_149, b225_151, b225_154, b225_174, b225_182, b225_194, b225_197, b225_206, b225_212, b225_218, b225_236, b225_246, b225_252, b225_259, b225_267, b225_270, qcall_l, qcall_r, qretn_l, qJ_s, qJ_n, qV0, qEx, ↓qif0, ↓zchk_pos, ↓reduceIte, qput, qWW, qmW, qkW, qnW, K_37 hK, hF.1, Int.lt_irrefl, r1, r2, Int.reduceEq, Int.reduceLE, true_and, and_self]
        exact r3
      · rw [hu] at r2 r3
        simp (config := { maxSteps := 2000000 }) (disch := first | omega | (simp only [K_37 hK, qb_in, qkW, qmW, qnW, true_and, and_true, or_self, true_or, or_true, and_self]; done) | (simp only [K_37 hK, qb_in, qkW, qmW, qnW, true_and, and_true, or_self, true_or, or_true, and_self]; omega)) only [b225_0, b225_16, b225_27, b225_33, b225_43, b225_61, b225_73, b225_76, b225_79, b225_83, b225_84, b225_94, b225_100, b225_110, b225_116, b225_122, b225_129, b225_136, b225_144, b225_149, b225_151, b225_154, b225_174, b225_182, b225_194, b225_197, b225_206, b225_212, b225_218, b225_236, b225_246, b225_252, b225_259, b225_267, b225_270, qcall_l, qcall_r, qretn_l, qJ_s, qJ_n, qV0, qEx, ↓qif0, ↓zchk_pos, ↓reduceIte, qput, qWW, qmW, qkW, qnW, K_37 hK, hF.1, Int.lt_irrefl, r1, r2, Int.reduceEq, Int.reduceLE, true_and, and_self]
        exact r3
    | succ f ih =>
      intro i m hd0 h2 hf hF hL hr
      have g1 := qA_n hF.2.2.1 i (by omega) (by rw [List.length_map]; omega)
      have f1 : qfr [65, 66, 67, 68, 69] [40, 42, 43, 45, 46] m (qu m 68 i (qnth ((qC1 T N g W P).map Prod.fst) i)) := qfr_a _ _ _ _ (by decide) (by decide)
      obtain ⟨m2, r2, p2⟩ := ih (i + 1) _ hd0 (by omega) (qfr_t' hf f1 (fun _ h => h) fun _ h => h) ⟨by rw [qu_o _ _ _ _ _ (by decide)]; exact hF.1, by rw [qu_o _ _ _ _ _ (by decide)]; exact hF.2.1, qA_u hF.2.2.1 _ _ _ (Or.inl (by decide)), qA_u hF.2.2.2 _ _ _ (Or.inl (by decide))⟩ ⟨by rw [qu_o _ _ _ _ _ (by decide)]; exact hL.1, qA_nil _ _⟩ (fun j j1 j2 => by
        by_cases q : j = i
        · rw [q, qu_s]
        · rw [qu_i _ _ _ _ _ q]
          exact hr j j1 (by omega))
      refine ⟨m2, ?_, p2⟩
      rw [b225_35]
      simp (config := { maxSteps := 2000000 }) (disch := first | omega | (simp only [K_37 hK, K_65 hK, P_37_39 hP, K_68 hK, P_37_47 hP, P_37_39 (kP hf), P_37_47 (kP hf), qb_in, qkW, qmW, qnW, true_and, and_true, or_self, true_or, or_true, and_self]; done) | (simp only [K_37 hK, K_65 hK, P_37_39 hP, K_68 hK, P_37_47 hP, P_37_39 (kP hf), P_37_47 (kP hf), qb_in, qkW, qmW, qnW, true_and, and_true, or_self, true_or, or_true, and_self]; omega)) only [b225_0, b225_16, b225_27, b225_33, b225_43, b225_61, b225_73, b225_76, b225_79, b225_83, b225_84, b225_94, b225_100, b225_110, b225_116, b225_122, b225_129, b225_136, b225_144, b225_149, b225_151, b225_154, b225_174, b225_182, b225_194, b225_197, b225_206, b225_212, b225_218, b225_236, b225_246, b225_252, b225_259, b225_267, b225_270, qcall_l, qcall_r, qretn_l, qJ_s, qJ_n, qV0, qEx, ↓qif0, ↓zchk_pos, ↓reduceIte, qput, qWW, qmW, qkW, qnW, K_37 hK, K_65 hK, P_37_39 hP, K_68 hK, P_37_47 hP, P_37_39 (kP hf), P_37_47 (kP hf), hF.1, g1, if_pos (show (i : Int) < (qC1 T N g W P).length by omega), q32]
      exact r2
  have X4 := hx.2.2.2.1
  have f0 : qfr [65, 66, 67, 68, 69] [40, 42, 43, 45, 46] (zm S) (qu (qu (qu (qu (zm S) 37 45 0) 37 40 0) 37 42 0) 37 43 0) := qfr_t' (qfr_t' (qfr_t' (qfr_j _ _ _ (by decide)) (qfr_j (A := [65, 66, 67, 68, 69]) (J := [40, 42, 43, 45, 46]) _ _ _ (by decide)) (fun _ h => h) fun _ h => h) (qfr_j (A := [65, 66, 67, 68, 69]) (J := [40, 42, 43, 45, 46]) _ _ _ (by decide)) (fun _ h => h) fun _ h => h) (qfr_j (A := [65, 66, 67, 68, 69]) (J := [40, 42, 43, 45, 46]) _ _ _ (by decide)) (fun _ h => h) fun _ h => h
  have hL0 : qKc (qu (qu (qu (qu (zm S) 37 45 0) 37 40 0) 37 42 0) 37 43 0) [] := ⟨by rw [qu_i _ _ _ _ _ (by decide), qu_i _ _ _ _ _ (by decide), qu_i _ _ _ _ _ (by decide), qu_s]; rfl, qA_nil _ _⟩
  have e33 : qu (qu (qu (qu (zm S) 37 45 0) 37 40 0) 37 42 0) 37 43 0 37 33 = dg := by rw [f0.2 33 (by decide)]; exact X4
  rcases hdr with hd0 | hd1
  · have hx0 := kx f0
    have hWr : ∀ i, 0 ≤ i → i < (W.length : Int) → 0 ≤ qnth W i ∧ qnth W i < 26 := by
      rcases hdg with q | q
      · exact q.2
      · omega
    obtain ⟨m1, r1, p1, f1⟩ := r_finds e (qW S (qu (qu (qu (qu (zm S) 37 45 0) 37 40 0) 37 42 0) 37 43 0)) c N g W.length P T (qnth W) (by omega) hK (kP f0) (kc f0) hT ⟨hx0.1, hx0.2.1, fun j j1 j2 => by
      have := hx0.2.2.2.2.2.2 j j1 j2
      rw [if_neg (by omega)] at this
      exact this⟩ (by omega) hWr
    rw [show ((W.length : Int)).toNat = W.length by omega] at p1
    obtain ⟨m2, r2, p2⟩ := hrw (qC1 T N g W P).length 0 m1 hd0 (by omega) (qfr_t' f0 f1 (by decide) (by decide)) p1 ⟨by rw [f1.2 45 (by decide)]; exact hL0.1, qA_nil _ _⟩ (fun j j1 j2 => by omega)
    refine ⟨m2, ?_, p2⟩
    simp (config := { maxSteps := 2000000 }) (disch := first | omega | (simp only [K_37 hK, qb_in, qkW, qmW, qnW, true_and, and_true, or_self, true_or, or_true, and_self]; done) | (simp only [K_37 hK, qb_in, qkW, qmW, qnW, true_and, and_true, or_self, true_or, or_true, and_self]; omega)) only [zD_225, b225_0, b225_16, b225_27, b225_33, b225_43, b225_61, b225_73, b225_76, b225_79, b225_83, b225_84, b225_94, b225_100, b225_110, b225_116, b225_122, b225_129, b225_136, b225_144, b225_149, b225_151, b225_154, b225_174, b225_182, b225_194, b225_197, b225_206, b225_212, b225_218, b225_236, b225_246, b225_252, b225_259, b225_267, b225_270, qcall_l, qcall_r, qretn_l, qJ_s, qJ_n, qV0, qEx, ↓qif0, ↓zchk_pos, ↓reduceIte, qput, qWW, qmW, qkW, qnW, K_37 hK, e33, if_pos hd0, r1, Int.reduceLE, true_and, and_self]
    exact r2
  · obtain ⟨m2, r2, p2⟩ := hst (qu (qu (qu (qu (zm S) 37 45 0) 37 40 0) 37 42 0) 37 43 0) (vi c) (vi g) vu f0 hL0 (by rw [qu_s]; unfold qwM; rw [if_pos hd1]) (fun q => by omega)
    refine ⟨m2, ?_, p2⟩
    simp (config := { maxSteps := 2000000 }) (disch := first | omega | (simp only [K_37 hK, qb_in, qkW, qmW, qnW, true_and, and_true, or_self, true_or, or_true, and_self]; done) | (simp only [K_37 hK, qb_in, qkW, qmW, qnW, true_and, and_true, or_self, true_or, or_true, and_self]; omega)) only [zD_225, b225_0, b225_16, b225_27, b225_33, b225_43, b225_61, b225_73, b225_76, b225_79, b225_83, b225_84, b225_94, b225_100, b225_110, b225_116, b225_122, b225_129, b225_136, b225_144, b225_149, b225_151, b225_154, b225_174, b225_182, b225_194, b225_197, b225_206, b225_212, b225_218, b225_236, b225_246, b225_252, b225_259, b225_267, b225_270, qcall_l, qcall_r, qretn_l, qJ_s, qJ_n, qV0, qEx, ↓qif0, ↓zchk_pos, ↓reduceIte, qput, qWW, qmW, qkW, qnW, K_37 hK, e33, if_neg (show ¬ dg = 0 by omega), Int.reduceLE, true_and, and_self]
    exact r2
