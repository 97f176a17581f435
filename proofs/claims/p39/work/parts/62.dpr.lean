/-! The reference counts rows of cells and readings. -/
theorem qdfL_b (T : Int → Int → Int) (N g : Int) (ws : Int → Int) (P n : Int) (hT : qTok T N) (F : Int → Int) (at_ : Int) (hat : 0 ≤ at_ ∧ at_ < n ∧ n ≤ 10) (hF : ∀ i, at_ < i → i ≤ n → 0 ≤ F i ∧ F i ≤ n - i) : ∀ (f : Nat) (k v : Int), 0 ≤ k → k + f = N → 0 ≤ v ∧ v ≤ n - at_ → 0 ≤ qdf (quL T g ws P n F at_) f k v ∧ qdf (quL T g ws P n F at_) f k v ≤ n - at_ := by
  intro f
  induction f with
  | zero => intro k v _ _ h; exact h
  | succ f ih =>
    intro k v h2 h3 h
    refine ih (k + 1) _ (by omega) (by omega) ?_
    unfold quL
    by_cases c : qc (qCW T k g ws n (qEn P n at_) at_) = 0
    · rw [if_pos c]; exact h
    · rw [if_neg c]
      have hE := (qEn_s P n at_ ⟨hat.1, hat.2.1, hat.2.2⟩).2.1
      have h5 := (qc_1 c).2.1
      have ht := (hT k h2 (by omega)).1
      have hb := hF (at_ + T 0 k) (by omega) (by omega)
      have hcn := qcn_r (T 4 k)
      rw [q64 (by omega)]
      split <;> omega
theorem qtabL_b (T : Int → Int → Int) (N g : Int) (ws : Int → Int) (P n : Int) (hT : qTok T N) (hN : 0 ≤ N) (hn : 0 < n ∧ n ≤ 10) : ∀ (j : Nat), (j : Int) ≤ n → ∀ i, n - j ≤ i → i ≤ n → 0 ≤ qtab n 0 (qsL T N g ws P n) j i ∧ qtab n 0 (qsL T N g ws P n) j i ≤ n - i := by
  intro j
  induction j with
  | zero =>
    intro _ i h1 h2
    have : i = n := by omega
    subst this
    simp only [qtab, ↓reduceIte]
    omega
  | succ j ih =>
    intro hj i h1 h2
    simp only [qtab]
    by_cases c : i = n - ((j : Int) + 1)
    · rw [if_pos c, c]
      have hF := ih (by omega)
      have b1 := hF (n - ((j : Int) + 1) + 1) (by omega) (by omega)
      refine qdfL_b T N g ws P n hT _ _ (by omega) (fun i i1 i2 => hF i (by omega) i2) N.toNat 0 _ (by omega) (by omega) ?_
      rw [q64 (by omega)]
      omega
    · rw [if_neg c]
      exact ih (by omega) i (by omega) h2
theorem zcmp_lt (a b : Int) : (zcmp a b < 0) = (a < b) := by
  unfold zcmp
  by_cases h : a < b
  · rw [if_pos h]; exact propext ⟨fun _ => h, fun _ => by decide⟩
  · rw [if_neg h]
    by_cases q : a = b
    · rw [if_pos q]; exact propext ⟨fun z => absurd z (by decide), fun z => absurd z h⟩
    · rw [if_neg q]; exact propext ⟨fun z => absurd z (by decide), fun z => absurd z h⟩
theorem r_least16 (e : Nat) (S : zS) (c N g n P : Int) (T : Int → Int → Int) (ws : Int → Int) (y3 y4 y5 y6 : zV) (h : 3 ≤ e) (hK : qK S) (hP : qP (zm S)) (hc : qRc (zm S) c N T) (hT : qTok T N) (hw : qRw (zm S) ws n P) (hn : 0 < n ∧ n ≤ 10) :
    ∃ m', zF_231 e 16 [vr 37, vi c, vi g, y3, y4, y5, y6] [] S = some (.inl (some (vi (z32 (qtab n 0 (qsL T N g ws P n) n.toNat 0)))), qW S m') ∧ qfr [70] [] (zm S) m' := by
  have hN := hc.2.2.1
  have hcr := hc.1
  have kP : ∀ {m}, qfr [70] [] (zm S) m → qP m := fun hf => qP_fr hP hf (by decide)
  have kc : ∀ {m}, qfr [70] [] (zm S) m → qRc m c N T := fun hf => qRc_f hc fun x h5 h6 => hf.1 x (by omega) (by simp only [List.mem_cons, List.not_mem_nil, or_false]; omega)
  have kw : ∀ {m}, qfr [70] [] (zm S) m → qRw m ws n P := fun hf => ⟨by rw [hf.2 36 (by simp)]; exact hw.1, by rw [hf.2 38 (by simp)]; exact hw.2.1, fun j j1 j2 => by rw [hf.1 64 (by decide) (by decide)]; exact hw.2.2 j j1 j2⟩
  have inner : ∀ (at_ : Int) (F : Int → Int) (hat : 0 ≤ at_ ∧ at_ < n) (hFb : ∀ i, at_ < i → i ≤ n → 0 ≤ F i ∧ F i ≤ n - i) (f : Nat) (k v : Int) (m : Int → Int → Int) (y5 y6 : zV), 0 ≤ k → k + f = N → (0 ≤ v ∧ v ≤ n - at_) → qfr [70] [] (zm S) m → (∀ i, at_ < i → i ≤ n → m 70 i = F i) → m 70 at_ = v →
      ∃ m', zF_231 e 59 [vr 37, vi c, vi g, vi at_, vi (24 * c + k), y5, y6] [] (qW S m) = zF_231 e 155 [vr 37, vi c, vi g, vi at_, vi (24 * c + N), vu, vu] [] (qW S m') ∧ qfr [70] [] (zm S) m' ∧ (∀ i, at_ < i → i ≤ n → m' 70 i = F i) ∧ m' 70 at_ = qdf (quL T g ws P n F at_) f k v := by
    intro at_ F hat hFb f
    induction f with
    | zero =>
      intro k v m y5 y6 h2 h3 hvb hq hF hv
      have hk : k = N := by omega
      subst hk
      refine ⟨m, ?_, hq, hF, hv⟩
      rw [b231_59]
      simp (config := { maxSteps := 2000000 }) (disch := first | omega | (simp only [K_37 hK, K_39 hK, P_37_5 hP, P_37_5 (kP hq), qb_in, qkW, qmW, qnW, true_and, and_true, or_self, true_or, or_true, and_self]; done) | (simp only [K_37 hK, K_39 hK, P_37_5 hP, P_37_5 (kP hq), qb_in, qkW, qmW, qnW, true_and, and_true, or_self, true_or, or_true, and_self]; omega)) only [b231_0, b231_8, b231_11, b231_14, b231_16, b231_32, b231_37, b231_51, b231_75, b231_83, b231_86, b231_96, b231_111, b231_115, b231_118, b231_134, b231_137, b231_142, b231_148, b231_161, qcall_l, qcall_r, qretn_l, qJ_s, qJ_n, qV0, qEx, ↓qif0, ↓zchk_pos, ↓reduceIte, qput, qWW, qmW, qkW, qnW, K_37 hK, K_39 hK, P_37_5 hP, P_37_5 (kP hq), (kc hq).2.1, Int.lt_irrefl, q32]
    | succ f ih =>
      intro k v m y5 y6 h2 h3 hvb hq hF hv
      have cw := r_canWrite e (qW S m) c N k g at_ n P T ws (by omega) hK (kP hq) (kc hq) hT ⟨h2, by omega⟩ (kw hq) ⟨hat.1, hat.2, hn.2⟩
      obtain ⟨t0, -, -, -, t4, -⟩ := (kc hq).2.2.2 k h2 (by omega)
      rw [b231_59]
      by_cases c0 : qc (qCW T k g ws n (qEn P n at_) at_) = 0
      · rw [c0] at cw
        have hq1 : qfr [70] [] (zm S) (qu m 70 at_ v) := qfr_t' hq (qfr_a _ _ _ _ (by decide) (by decide)) (fun _ h => h) fun _ h => h
        obtain ⟨m', r, p⟩ := ih (k + 1) v (qu m 70 at_ v) vu vu (by omega) (by omega) hvb hq1 (fun i i1 i2 => by rw [qu_i _ _ _ _ _ (by omega)]; exact hF i i1 i2) (qu_s _ _ _ _)
        refine ⟨m', ?_, ?_⟩
        · simp (config := { maxSteps := 2000000 }) (disch := first | omega | (simp only [K_37 hK, K_39 hK, P_37_5 hP, K_70 hK, P_37_49 hP, P_37_5 (kP hq), P_37_49 (kP hq), qb_in, qkW, qmW, qnW, true_and, and_true, or_self, true_or, or_true, and_self]; done) | (simp only [K_37 hK, K_39 hK, P_37_5 hP, K_70 hK, P_37_49 hP, P_37_5 (kP hq), P_37_49 (kP hq), qb_in, qkW, qmW, qnW, true_and, and_true, or_self, true_or, or_true, and_self]; omega)) only [b231_0, b231_8, b231_11, b231_14, b231_16, b231_32, b231_37, b231_51, b231_75, b231_83, b231_86, b231_96, b231_111, b231_115, b231_118, b231_134, b231_137, b231_142, b231_148, b231_161, qcall_l, qcall_r, qretn_l, qJ_s, qJ_n, qV0, qEx, ↓qif0, ↓zchk_pos, ↓reduceIte, qput, qWW, qmW, qkW, qnW, K_37 hK, K_39 hK, P_37_5 hP, K_70 hK, P_37_49 hP, P_37_5 (kP hq), P_37_49 (kP hq), (kc hq).2.1, if_pos (show 24 * c + k < 24 * c + N by omega), cw, hv, zcmp_lt, if_neg (show ¬ (99 : Int) < v by omega), q32]
          rw [show 24 * c + k + 1 = 24 * c + (k + 1) by omega]
          exact r
        · have e1 : qdf (quL T g ws P n F at_) (f + 1) k v = qdf (quL T g ws P n F at_) f (k + 1) v := by
            show qdf _ f (k + 1) (quL T g ws P n F at_ k v) = _
            unfold quL
            rw [if_pos c0]
          rw [e1]
          exact p
      · have hcw := qc_1 c0
        have hE := (qEn_s P n at_ ⟨hat.1, hat.2, hn.2⟩).2.1
        have h5 := hcw.2.1
        have ht := (hT k h2 (by omega)).1
        have gF := hF (at_ + T 0 k) (by omega) (by omega)
        have gb := hFb (at_ + T 0 k) (by omega) (by omega)
        have hcn := qcn_r (T 4 k)
        have cc := r_cellsOf' e (qW S m) (T 4 k) (by omega)
        rw [qc_p hcw] at cw
        have e2 : z64 (qcn (T 4 k) + F (at_ + T 0 k)) = z64 (F (at_ + T 0 k) + qcn (T 4 k)) := by rw [Int.add_comm]
        have e3 : z64 (F (at_ + T 0 k) + qcn (T 4 k)) = F (at_ + T 0 k) + qcn (T 4 k) := q64 (by omega)
        generalize hV : F (at_ + T 0 k) + qcn (T 4 k) = V at e3
        rw [hV] at e2
        have hq1 : qfr [70] [] (zm S) (qu m 70 at_ (if V < v then V else v)) := qfr_t' hq (qfr_a _ _ _ _ (by decide) (by decide)) (fun _ h => h) fun _ h => h
        obtain ⟨m', r, p⟩ := ih (k + 1) (if V < v then V else v) (qu m 70 at_ (if V < v then V else v)) vu vu (by omega) (by omega) (by split <;> omega) hq1 (fun i i1 i2 => by rw [qu_i _ _ _ _ _ (by omega)]; exact hF i i1 i2) (qu_s _ _ _ _)
        refine ⟨m', ?_, ?_⟩
        · by_cases c1 : V < v
          · rw [if_pos c1] at r
            simp (config := { maxSteps := 2000000 }) (disch := first | omega | (simp only [K_37 hK, K_39 hK, P_37_5 hP, K_70 hK, P_37_49 hP, K_43 hK, P_37_9 hP, K_41 hK, P_37_7 hP, P_37_5 (kP hq), P_37_7 (kP hq), P_37_9 (kP hq), P_37_49 (kP hq), t0, q32, qb_in, qkW, qmW, qnW, true_and, and_true, or_self, true_or, or_true, and_self]; done) | (simp only [K_37 hK, K_39 hK, P_37_5 hP, K_70 hK, P_37_49 hP, K_43 hK, P_37_9 hP, K_41 hK, P_37_7 hP, P_37_5 (kP hq), P_37_7 (kP hq), P_37_9 (kP hq), P_37_49 (kP hq), t0, q32, qb_in, qkW, qmW, qnW, true_and, and_true, or_self, true_or, or_true, and_self]; omega)) only [b231_0, b231_8, b231_11, b231_14, b231_16, b231_32, b231_37, b231_51, b231_75, b231_83, b231_86, b231_96, b231_111, b231_115, b231_118, b231_134, b231_137, b231_142, b231_148, b231_161, qcall_l, qcall_r, qretn_l, qJ_s, qJ_n, qV0, qEx, ↓qif0, ↓zchk_pos, ↓reduceIte, qput, qWW, qmW, qkW, qnW, K_37 hK, K_39 hK, P_37_5 hP, K_70 hK, P_37_49 hP, K_43 hK, P_37_9 hP, K_41 hK, P_37_7 hP, P_37_5 (kP hq), P_37_7 (kP hq), P_37_9 (kP hq), P_37_49 (kP hq), (kc hq).2.1, t0, t4, cc, if_pos (show 24 * c + k < 24 * c + N by omega), cw, hv, gF, e2, e3, zcmp_lt, if_pos c1, Int.reduceEq, q32]
            rw [show 24 * c + k + 1 = 24 * c + (k + 1) by omega]
            exact r
          · rw [if_neg c1] at r
            simp (config := { maxSteps := 2000000 }) (disch := first | omega | (simp only [K_37 hK, K_39 hK, P_37_5 hP, K_70 hK, P_37_49 hP, K_43 hK, P_37_9 hP, K_41 hK, P_37_7 hP, P_37_5 (kP hq), P_37_7 (kP hq), P_37_9 (kP hq), P_37_49 (kP hq), t0, q32, qb_in, qkW, qmW, qnW, true_and, and_true, or_self, true_or, or_true, and_self]; done) | (simp only [K_37 hK, K_39 hK, P_37_5 hP, K_70 hK, P_37_49 hP, K_43 hK, P_37_9 hP, K_41 hK, P_37_7 hP, P_37_5 (kP hq), P_37_7 (kP hq), P_37_9 (kP hq), P_37_49 (kP hq), t0, q32, qb_in, qkW, qmW, qnW, true_and, and_true, or_self, true_or, or_true, and_self]; omega)) only [b231_0, b231_8, b231_11, b231_14, b231_16, b231_32, b231_37, b231_51, b231_75, b231_83, b231_86, b231_96, b231_111, b231_115, b231_118, b231_134, b231_137, b231_142, b231_148, b231_161, qcall_l, qcall_r, qretn_l, qJ_s, qJ_n, qV0, qEx, ↓qif0, ↓zchk_pos, ↓reduceIte, qput, qWW, qmW, qkW, qnW, K_37 hK, K_39 hK, P_37_5 hP, K_70 hK, P_37_49 hP, K_43 hK, P_37_9 hP, K_41 hK, P_37_7 hP, P_37_5 (kP hq), P_37_7 (kP hq), P_37_9 (kP hq), P_37_49 (kP hq), (kc hq).2.1, t0, t4, cc, if_pos (show 24 * c + k < 24 * c + N by omega), cw, hv, gF, e2, e3, zcmp_lt, if_neg c1, Int.reduceEq, q32]
            rw [show 24 * c + k + 1 = 24 * c + (k + 1) by omega]
            exact r
        · have e1 : qdf (quL T g ws P n F at_) (f + 1) k v = qdf (quL T g ws P n F at_) f (k + 1) (if V < v then V else v) := by
            show qdf _ f (k + 1) (quL T g ws P n F at_ k v) = _
            unfold quL
            rw [if_neg c0, hV, e3]
          rw [e1]
          exact p
  have outer : ∀ (f j : Nat) (m : Int → Int → Int) (y4 y5 y6 : zV), (j : Int) + f = n → qfr [70] [] (zm S) m → (∀ i, n - j ≤ i → i ≤ n → m 70 i = qtab n 0 (qsL T N g ws P n) j i) →
      ∃ m', zF_231 e 33 [vr 37, vi c, vi g, vi (n - j - 1), y4, y5, y6] [] (qW S m) = some (.inl (some (vi (z32 (qtab n 0 (qsL T N g ws P n) n.toNat 0)))), qW S m') ∧ qfr [70] [] (zm S) m' := by
    intro f
    induction f with
    | zero =>
      intro j m y4 y5 y6 h2 hq hF
      have g1 := hF 0 (by omega) (by omega)
      rw [show j = n.toNat by omega] at g1
      refine ⟨m, ?_, hq⟩
      rw [b231_33]
      simp (config := { maxSteps := 2000000 }) (disch := first | omega | (simp only [K_37 hK, K_70 hK, P_37_49 hP, P_37_49 (kP hq), qb_in, qkW, qmW, qnW, true_and, and_true, or_self, true_or, or_true, and_self]; done) | (simp only [K_37 hK, K_70 hK, P_37_49 hP, P_37_49 (kP hq), qb_in, qkW, qmW, qnW, true_and, and_true, or_self, true_or, or_true, and_self]; omega)) only [b231_0, b231_8, b231_11, b231_14, b231_16, b231_32, b231_37, b231_51, b231_75, b231_83, b231_86, b231_96, b231_111, b231_115, b231_118, b231_134, b231_137, b231_142, b231_148, b231_155, b231_161, qcall_l, qcall_r, qretn_l, qJ_s, qJ_n, qV0, qEx, ↓qif0, ↓zchk_pos, ↓reduceIte, qput, qWW, qmW, qkW, qnW, K_37 hK, K_70 hK, P_37_49 hP, P_37_49 (kP hq), g1, if_pos (show n - j - 1 < 0 by omega)]
    | succ f ih =>
      intro j m y4 y5 y6 h2 hq hF
      have g1 := hF (n - j - 1 + 1) (by omega) (by omega)
      have hb := qtabL_b T N g ws P n hT hN.1 hn j (by omega)
      have b1 := hb (n - j - 1 + 1) (by omega) (by omega)
      have e64 : z64 (1 + qtab n 0 (qsL T N g ws P n) j (n - j - 1 + 1)) = z64 (qtab n 0 (qsL T N g ws P n) j (n - j - 1 + 1) + 1) := by rw [Int.add_comm]
      have hq1 : qfr [70] [] (zm S) (qu m 70 (n - j - 1) (z64 (qtab n 0 (qsL T N g ws P n) j (n - j - 1 + 1) + 1))) := qfr_t' hq (qfr_a _ _ _ _ (by decide) (by decide)) (fun _ h => h) fun _ h => h
      obtain ⟨m1, r1, q1, F1, v1⟩ := inner (n - j - 1) (qtab n 0 (qsL T N g ws P n) j) (by omega) (fun i i1 i2 => hb i (by omega) i2) N.toNat 0 (z64 (qtab n 0 (qsL T N g ws P n) j (n - j - 1 + 1) + 1)) _ vu vu (by omega) (by omega) (by rw [q64 (by omega)]; omega) hq1 (fun i i1 i2 => by rw [qu_i _ _ _ _ _ (by omega)]; exact hF i (by omega) i2) (qu_s _ _ _ _)
      obtain ⟨m2, r2, q2⟩ := ih (j + 1) m1 vu vu vu (by omega) q1 (fun i i1 i2 => by
        show _ = if i = n - ((j : Int) + 1) then _ else _
        by_cases c : i = n - ((j : Int) + 1)
        · rw [if_pos c, c, show n - ((j : Int) + 1) = n - j - 1 by omega]
          exact v1
        · rw [if_neg c]
          exact F1 i (by omega) i2)
      refine ⟨m2, ?_, q2⟩
      rw [b231_33]
      rw [show 24 * c + 0 = 24 * c by omega] at r1
      simp (config := { maxSteps := 2000000 }) (disch := first | omega | (simp only [K_37 hK, K_70 hK, P_37_49 hP, P_37_49 (kP hq), q32, qb_in, qkW, qmW, qnW, true_and, and_true, or_self, true_or, or_true, and_self]; done) | (simp only [K_37 hK, K_70 hK, P_37_49 hP, P_37_49 (kP hq), q32, qb_in, qkW, qmW, qnW, true_and, and_true, or_self, true_or, or_true, and_self]; omega)) only [b231_0, b231_8, b231_11, b231_14, b231_16, b231_32, b231_37, b231_51, b231_75, b231_83, b231_86, b231_96, b231_111, b231_115, b231_118, b231_134, b231_137, b231_142, b231_148, b231_155, b231_161, qcall_l, qcall_r, qretn_l, qJ_s, qJ_n, qV0, qEx, ↓qif0, ↓zchk_pos, ↓reduceIte, qput, qWW, qmW, qkW, qnW, K_37 hK, K_70 hK, P_37_49 hP, P_37_49 (kP hq), g1, e64, if_neg (show ¬ n - j - 1 < 0 by omega), q32]
      rw [r1, b231_155]
      simp (disch := omega) only [q32]
      rw [show n - (j : Int) - 1 + -1 = n - ((j + 1 : Nat) : Int) - 1 by omega]
      exact r2
  have hq0 : qfr [70] [] (zm S) (qu (zm S) 70 n 0) := qfr_a _ _ _ _ (by decide) (by decide)
  obtain ⟨m1, r1, q1⟩ := outer n.toNat 0 (qu (zm S) 70 n 0) vu vu vu (by omega) hq0 (fun i i1 i2 => by
    have : i = n := by omega
    rw [this, qu_s]
    show 0 = if n = n then 0 else 0
    rw [if_pos rfl])
  refine ⟨m1, ?_, q1⟩
  have w1 := hw.1
  have e36 : qu (zm S) 70 n 0 37 = zm S 37 := qu_o _ _ _ _ _ (by decide)
  rw [show n - ((0 : Nat) : Int) - 1 = n - 1 by omega] at r1
  rw [b231_16]
  simp (config := { maxSteps := 2000000 }) (disch := first | omega | (simp only [K_37 hK, K_70 hK, P_37_49 hP, P_37_49 hP, w1, e36, qb_in, qkW, qmW, qnW, true_and, and_true, or_self, true_or, or_true, and_self]; done) | (simp only [K_37 hK, K_70 hK, P_37_49 hP, P_37_49 hP, w1, e36, qb_in, qkW, qmW, qnW, true_and, and_true, or_self, true_or, or_true, and_self]; omega)) only [b231_0, b231_8, b231_11, b231_14, b231_16, b231_32, b231_37, b231_51, b231_75, b231_83, b231_86, b231_96, b231_111, b231_115, b231_118, b231_134, b231_137, b231_142, b231_148, b231_155, b231_161, qcall_l, qcall_r, qretn_l, qJ_s, qJ_n, qV0, qEx, ↓qif0, ↓zchk_pos, ↓reduceIte, qput, qWW, qmW, qkW, qnW, K_37 hK, K_70 hK, P_37_49 hP, P_37_49 hP, w1, e36, q32, r1]
def qi64 (x : Int) : Prop := -9223372036854775808 ≤ x ∧ x < 9223372036854775808
theorem z64_r (x : Int) : qi64 (z64 x) := by
  unfold qi64 z64
  omega
theorem qdfW_b (T : Int → Int → Int) (g : Int) (ws : Int → Int) (P n : Int) (F : Int → Int) (at_ : Int) : ∀ (f : Nat) (k v : Int), qi64 v → qi64 (qdf (quW T g ws P n F at_) f k v) := by
  intro f
  induction f with
  | zero => intro k v h; exact h
  | succ f ih =>
    intro k v h
    refine ih (k + 1) _ ?_
    unfold quW
    split
    · exact h
    · exact z64_r _
theorem qdfR_b (T : Int → Int → Int) (g : Int) (r : Int → Int) (n : Int) (F : Int → Int) (at_ : Int) : ∀ (f : Nat) (k v : Int), qi64 v → qi64 (qdf (quR T g r n F at_) f k v) := by
  intro f
  induction f with
  | zero => intro k v h; exact h
  | succ f ih =>
    intro k v h
    refine ih (k + 1) _ ?_
    unfold quR
    split
    · exact h
    · exact z64_r _
theorem qtab_b (n init : Int) (st : (Int → Int) → Int → Int) (h0 : qi64 init) (h : ∀ F at_, (∀ i, qi64 (F i)) → qi64 (st F at_)) : ∀ (j : Nat) (i : Int), qi64 (qtab n init st j i) := by
  intro j
  induction j with
  | zero =>
    intro i
    simp only [qtab]
    split
    · exact h0
    · exact ⟨by decide, by decide⟩
  | succ j ih =>
    intro i
    simp only [qtab]
    split
    · exact h _ _ ih
    · exact ih i
theorem r_ways16 (e : Nat) (S : zS) (c N g n P : Int) (T : Int → Int → Int) (ws : Int → Int) (y3 y4 : zV) (h : 3 ≤ e) (hK : qK S) (hP : qP (zm S)) (hc : qRc (zm S) c N T) (hT : qTok T N) (hw : qRw (zm S) ws n P) (hn : 0 < n ∧ n ≤ 10) :
    ∃ m', zF_232 e 16 [vr 37, vi c, vi g, y3, y4] [] S = some (.inl (some (vl (qtab n 1 (qsW T N g ws P n) n.toNat 0))), qW S m') ∧ qfr [70] [] (zm S) m' := by
  have hN := hc.2.2.1
  have hcr := hc.1
  have kP : ∀ {m}, qfr [70] [] (zm S) m → qP m := fun hf => qP_fr hP hf (by decide)
  have kc : ∀ {m}, qfr [70] [] (zm S) m → qRc m c N T := fun hf => qRc_f hc fun x h5 h6 => hf.1 x (by omega) (by simp only [List.mem_cons, List.not_mem_nil, or_false]; omega)
  have kw : ∀ {m}, qfr [70] [] (zm S) m → qRw m ws n P := fun hf => ⟨by rw [hf.2 36 (by simp)]; exact hw.1, by rw [hf.2 38 (by simp)]; exact hw.2.1, fun j j1 j2 => by rw [hf.1 64 (by decide) (by decide)]; exact hw.2.2 j j1 j2⟩
  have hb : ∀ (j : Nat) (i : Int), qi64 (qtab n 1 (qsW T N g ws P n) j i) := qtab_b n 1 _ ⟨by decide, by decide⟩ fun F at_ hF => qdfW_b _ _ _ _ _ _ _ _ _ _ (hF _)
  have inner : ∀ (at_ : Int) (F : Int → Int) (hat : 0 ≤ at_ ∧ at_ < n) (f : Nat) (k v : Int) (m : Int → Int → Int), 0 ≤ k → k + f = N → qi64 v → qfr [70] [] (zm S) m → (∀ i, at_ < i → i ≤ n → m 70 i = F i) → m 70 at_ = v →
      ∃ m', zF_232 e 57 [vr 37, vi c, vi g, vi at_, vi (24 * c + k)] [] (qW S m) = zF_232 e 117 [vr 37, vi c, vi g, vi at_, vi (24 * c + N)] [] (qW S m') ∧ qfr [70] [] (zm S) m' ∧ (∀ i, at_ < i → i ≤ n → m' 70 i = F i) ∧ m' 70 at_ = qdf (quW T g ws P n F at_) f k v := by
    intro at_ F hat f
    induction f with
    | zero =>
      intro k v m h2 h3 hvb hq hF hv
      have hk : k = N := by omega
      subst hk
      refine ⟨m, ?_, hq, hF, hv⟩
      rw [b232_57]
      simp (config := { maxSteps := 2000000 }) (disch := first | omega | (simp only [K_37 hK, K_39 hK, P_37_5 hP, P_37_5 (kP hq), qb_in, qkW, qmW, qnW, true_and, and_true, or_self, true_or, or_true, and_self]; done) | (simp only [K_37 hK, K_39 hK, P_37_5 hP, P_37_5 (kP hq), qb_in, qkW, qmW, qnW, true_and, and_true, or_self, true_or, or_true, and_self]; omega)) only [b232_0, b232_8, b232_11, b232_14, b232_16, b232_32, b232_37, b232_51, b232_73, b232_88, b232_91, b232_108, b232_109, b232_123, qcall_l, qcall_r, qretn_l, qJ_s, qJ_n, qV0, qEx, ↓qif0, ↓zchk_pos, ↓reduceIte, qput, qWW, qmW, qkW, qnW, K_37 hK, K_39 hK, P_37_5 hP, P_37_5 (kP hq), (kc hq).2.1, Int.lt_irrefl, q32]
    | succ f ih =>
      intro k v m h2 h3 hvb hq hF hv
      have cw := r_canWrite e (qW S m) c N k g at_ n P T ws (by omega) hK (kP hq) (kc hq) hT ⟨h2, by omega⟩ (kw hq) ⟨hat.1, hat.2, hn.2⟩
      obtain ⟨t0, -, -, -, -, -⟩ := (kc hq).2.2.2 k h2 (by omega)
      rw [b232_57]
      by_cases c0 : qc (qCW T k g ws n (qEn P n at_) at_) = 0
      · rw [c0] at cw
        have hq1 : qfr [70] [] (zm S) (qu m 70 at_ v) := qfr_t' hq (qfr_a _ _ _ _ (by decide) (by decide)) (fun _ h => h) fun _ h => h
        have ev : z64 v = v := q64 hvb
        obtain ⟨m', r, p⟩ := ih (k + 1) v (qu m 70 at_ v) (by omega) (by omega) hvb hq1 (fun i i1 i2 => by rw [qu_i _ _ _ _ _ (by omega)]; exact hF i i1 i2) (qu_s _ _ _ _)
        refine ⟨m', ?_, ?_⟩
        · simp (config := { maxSteps := 2000000 }) (disch := first | omega | (simp only [K_37 hK, K_39 hK, P_37_5 hP, K_70 hK, P_37_49 hP, P_37_5 (kP hq), P_37_49 (kP hq), qb_in, qkW, qmW, qnW, true_and, and_true, or_self, true_or, or_true, and_self]; done) | (simp only [K_37 hK, K_39 hK, P_37_5 hP, K_70 hK, P_37_49 hP, P_37_5 (kP hq), P_37_49 (kP hq), qb_in, qkW, qmW, qnW, true_and, and_true, or_self, true_or, or_true, and_self]; omega)) only [b232_0, b232_8, b232_11, b232_14, b232_16, b232_32, b232_37, b232_51, b232_73, b232_88, b232_91, b232_108, b232_109, b232_123, qcall_l, qcall_r, qretn_l, qJ_s, qJ_n, qV0, qEx, ↓qif0, ↓zchk_pos, ↓reduceIte, qput, qWW, qmW, qkW, qnW, K_37 hK, K_39 hK, P_37_5 hP, K_70 hK, P_37_49 hP, P_37_5 (kP hq), P_37_49 (kP hq), (kc hq).2.1, if_pos (show 24 * c + k < 24 * c + N by omega), cw, hv, Int.add_zero, ev, q32]
          rw [show 24 * c + k + 1 = 24 * c + (k + 1) by omega]
          exact r
        · have e1 : qdf (quW T g ws P n F at_) (f + 1) k v = qdf (quW T g ws P n F at_) f (k + 1) v := by
            show qdf _ f (k + 1) (quW T g ws P n F at_ k v) = _
            unfold quW
            rw [if_pos c0]
          rw [e1]
          exact p
      · have hcw := qc_1 c0
        have hE := (qEn_s P n at_ ⟨hat.1, hat.2, hn.2⟩).2.1
        have h5 := hcw.2.1
        have ht := (hT k h2 (by omega)).1
        have gF := hF (at_ + T 0 k) (by omega) (by omega)
        rw [qc_p hcw] at cw
        generalize hV : z64 (v + F (at_ + T 0 k)) = V
        have hVb : qi64 V := hV ▸ z64_r _
        have hq1 : qfr [70] [] (zm S) (qu m 70 at_ V) := qfr_t' hq (qfr_a _ _ _ _ (by decide) (by decide)) (fun _ h => h) fun _ h => h
        obtain ⟨m', r, p⟩ := ih (k + 1) V (qu m 70 at_ V) (by omega) (by omega) hVb hq1 (fun i i1 i2 => by rw [qu_i _ _ _ _ _ (by omega)]; exact hF i i1 i2) (qu_s _ _ _ _)
        refine ⟨m', ?_, ?_⟩
        · simp (config := { maxSteps := 2000000 }) (disch := first | omega | (simp only [K_37 hK, K_39 hK, P_37_5 hP, K_70 hK, P_37_49 hP, K_41 hK, P_37_7 hP, P_37_5 (kP hq), P_37_7 (kP hq), P_37_49 (kP hq), t0, q32, qb_in, qkW, qmW, qnW, true_and, and_true, or_self, true_or, or_true, and_self]; done) | (simp only [K_37 hK, K_39 hK, P_37_5 hP, K_70 hK, P_37_49 hP, K_41 hK, P_37_7 hP, P_37_5 (kP hq), P_37_7 (kP hq), P_37_49 (kP hq), t0, q32, qb_in, qkW, qmW, qnW, true_and, and_true, or_self, true_or, or_true, and_self]; omega)) only [b232_0, b232_8, b232_11, b232_14, b232_16, b232_32, b232_37, b232_51, b232_73, b232_88, b232_91, b232_108, b232_109, b232_123, qcall_l, qcall_r, qretn_l, qJ_s, qJ_n, qV0, qEx, ↓qif0, ↓zchk_pos, ↓reduceIte, qput, qWW, qmW, qkW, qnW, K_37 hK, K_39 hK, P_37_5 hP, K_70 hK, P_37_49 hP, K_41 hK, P_37_7 hP, P_37_5 (kP hq), P_37_7 (kP hq), P_37_49 (kP hq), (kc hq).2.1, t0, if_pos (show 24 * c + k < 24 * c + N by omega), cw, hv, gF, hV, Int.reduceEq, q32]
          rw [show 24 * c + k + 1 = 24 * c + (k + 1) by omega]
          exact r
        · have e1 : qdf (quW T g ws P n F at_) (f + 1) k v = qdf (quW T g ws P n F at_) f (k + 1) V := by
            show qdf _ f (k + 1) (quW T g ws P n F at_ k v) = _
            unfold quW
            rw [if_neg c0, hV]
          rw [e1]
          exact p
  have outer : ∀ (f j : Nat) (m : Int → Int → Int) (y4 : zV), (j : Int) + f = n → qfr [70] [] (zm S) m → (∀ i, n - j ≤ i → i ≤ n → m 70 i = qtab n 1 (qsW T N g ws P n) j i) →
      ∃ m', zF_232 e 33 [vr 37, vi c, vi g, vi (n - j - 1), y4] [] (qW S m) = some (.inl (some (vl (qtab n 1 (qsW T N g ws P n) n.toNat 0))), qW S m') ∧ qfr [70] [] (zm S) m' := by
    intro f
    induction f with
    | zero =>
      intro j m y4 h2 hq hF
      have g1 := hF 0 (by omega) (by omega)
      rw [show j = n.toNat by omega] at g1
      refine ⟨m, ?_, hq⟩
      rw [b232_33]
      simp (config := { maxSteps := 2000000 }) (disch := first | omega | (simp only [K_37 hK, K_70 hK, P_37_49 hP, P_37_49 (kP hq), qb_in, qkW, qmW, qnW, true_and, and_true, or_self, true_or, or_true, and_self]; done) | (simp only [K_37 hK, K_70 hK, P_37_49 hP, P_37_49 (kP hq), qb_in, qkW, qmW, qnW, true_and, and_true, or_self, true_or, or_true, and_self]; omega)) only [b232_0, b232_8, b232_11, b232_14, b232_16, b232_32, b232_37, b232_51, b232_73, b232_88, b232_91, b232_108, b232_109, b232_117, b232_123, qcall_l, qcall_r, qretn_l, qJ_s, qJ_n, qV0, qEx, ↓qif0, ↓zchk_pos, ↓reduceIte, qput, qWW, qmW, qkW, qnW, K_37 hK, K_70 hK, P_37_49 hP, P_37_49 (kP hq), g1, if_pos (show n - j - 1 < 0 by omega)]
    | succ f ih =>
      intro j m y4 h2 hq hF
      have g1 := hF (n - j - 1 + 1) (by omega) (by omega)
      have hq1 : qfr [70] [] (zm S) (qu m 70 (n - j - 1) (qtab n 1 (qsW T N g ws P n) j (n - j - 1 + 1))) := qfr_t' hq (qfr_a _ _ _ _ (by decide) (by decide)) (fun _ h => h) fun _ h => h
      obtain ⟨m1, r1, q1, F1, v1⟩ := inner (n - j - 1) (qtab n 1 (qsW T N g ws P n) j) (by omega) N.toNat 0 (qtab n 1 (qsW T N g ws P n) j (n - j - 1 + 1)) _ (by omega) (by omega) (hb _ _) hq1 (fun i i1 i2 => by rw [qu_i _ _ _ _ _ (by omega)]; exact hF i (by omega) i2) (qu_s _ _ _ _)
      obtain ⟨m2, r2, q2⟩ := ih (j + 1) m1 vu (by omega) q1 (fun i i1 i2 => by
        show _ = if i = n - ((j : Int) + 1) then _ else _
        by_cases c : i = n - ((j : Int) + 1)
        · rw [if_pos c, c, show n - ((j : Int) + 1) = n - j - 1 by omega]
          exact v1
        · rw [if_neg c]
          exact F1 i (by omega) i2)
      refine ⟨m2, ?_, q2⟩
      rw [b232_33]
      rw [show 24 * c + 0 = 24 * c by omega] at r1
      simp (config := { maxSteps := 2000000 }) (disch := first | omega | (simp only [K_37 hK, K_70 hK, P_37_49 hP, P_37_49 (kP hq), q32, qb_in, qkW, qmW, qnW, true_and, and_true, or_self, true_or, or_true, and_self]; done) | (simp only [K_37 hK, K_70 hK, P_37_49 hP, P_37_49 (kP hq), q32, qb_in, qkW, qmW, qnW, true_and, and_true, or_self, true_or, or_true, and_self]; omega)) only [b232_0, b232_8, b232_11, b232_14, b232_16, b232_32, b232_37, b232_51, b232_73, b232_88, b232_91, b232_108, b232_109, b232_117, b232_123, qcall_l, qcall_r, qretn_l, qJ_s, qJ_n, qV0, qEx, ↓qif0, ↓zchk_pos, ↓reduceIte, qput, qWW, qmW, qkW, qnW, K_37 hK, K_70 hK, P_37_49 hP, P_37_49 (kP hq), g1, if_neg (show ¬ n - j - 1 < 0 by omega), q32]
      rw [r1, b232_117]
      simp (disch := omega) only [q32]
      rw [show n - (j : Int) - 1 + -1 = n - ((j + 1 : Nat) : Int) - 1 by omega]
      exact r2
  have hq0 : qfr [70] [] (zm S) (qu (zm S) 70 n 1) := qfr_a _ _ _ _ (by decide) (by decide)
  obtain ⟨m1, r1, q1⟩ := outer n.toNat 0 (qu (zm S) 70 n 1) vu (by omega) hq0 (fun i i1 i2 => by
    have : i = n := by omega
    rw [this, qu_s]
    show 1 = if n = n then 1 else 0
    rw [if_pos rfl])
  refine ⟨m1, ?_, q1⟩
  have w1 := hw.1
  have e36 : qu (zm S) 70 n 1 37 = zm S 37 := qu_o _ _ _ _ _ (by decide)
  rw [show n - ((0 : Nat) : Int) - 1 = n - 1 by omega] at r1
  rw [b232_16]
  simp (config := { maxSteps := 2000000 }) (disch := first | omega | (simp only [K_37 hK, K_70 hK, P_37_49 hP, P_37_49 hP, w1, e36, qb_in, qkW, qmW, qnW, true_and, and_true, or_self, true_or, or_true, and_self]; done) | (simp only [K_37 hK, K_70 hK, P_37_49 hP, P_37_49 hP, w1, e36, qb_in, qkW, qmW, qnW, true_and, and_true, or_self, true_or, or_true, and_self]; omega)) only [b232_0, b232_8, b232_11, b232_14, b232_16, b232_32, b232_37, b232_51, b232_73, b232_88, b232_91, b232_108, b232_109, b232_117, b232_123, qcall_l, qcall_r, qretn_l, qJ_s, qJ_n, qV0, qEx, ↓qif0, ↓zchk_pos, ↓reduceIte, qput, qWW, qmW, qkW, qnW, K_37 hK, K_70 hK, P_37_49 hP, P_37_49 hP, w1, e36, q32, r1]
theorem r_readings50 (e : Nat) (S : zS) (c N g : Int) (T : Int → Int → Int) (L : List Int) (y3 y4 : zV) (h : 3 ≤ e) (hK : qK S) (hP : qP (zm S)) (hc : qRc (zm S) c N T) (hT : qTok T N) (hr : qRr (zm S) (qnth L) L.length) (hl : zm S 37 40 = L.length) (hn : 0 < L.length ∧ L.length ≤ 16) :
    ∃ m', zF_233 e 50 [vr 37, vi c, vi g, y3, y4] [] S = some (.inl (some (vl (qtab L.length 1 (qsR T N g (qnth L) L.length) L.length 0))), qW S m') ∧ qfr [70] [] (zm S) m' := by
  have hN := hc.2.2.1
  have hcr := hc.1
  have kP : ∀ {m}, qfr [70] [] (zm S) m → qP m := fun hf => qP_fr hP hf (by decide)
  have kc : ∀ {m}, qfr [70] [] (zm S) m → qRc m c N T := fun hf => qRc_f hc fun x h5 h6 => hf.1 x (by omega) (by simp only [List.mem_cons, List.not_mem_nil, or_false]; omega)
  have kr : ∀ {m}, qfr [70] [] (zm S) m → qRr m (qnth L) L.length := fun hf j j1 j2 => by rw [hf.1 68 (by decide) (by decide)]; exact hr j j1 j2
  have kl : ∀ {m}, qfr [70] [] (zm S) m → m 37 40 = L.length := fun hf => by rw [hf.2 40 (by simp)]; exact hl
  have hb : ∀ (j : Nat) (i : Int), qi64 (qtab L.length 1 (qsR T N g (qnth L) L.length) j i) := qtab_b L.length 1 _ ⟨by decide, by decide⟩ fun F at_ hF => qdfR_b _ _ _ _ _ _ _ _ _ (by
    split
    · exact ⟨by decide, by decide⟩
    · exact hF _)
  have inner : ∀ (at_ : Int) (F : Int → Int) (hat : 0 ≤ at_ ∧ at_ < L.length) (f : Nat) (k v : Int) (m : Int → Int → Int), 0 ≤ k → k + f = N → qi64 v → qfr [70] [] (zm S) m → (∀ i, at_ < i → i ≤ L.length → m 70 i = F i) → m 70 at_ = v →
      ∃ m', zF_233 e 107 [vr 37, vi c, vi g, vi at_, vi (24 * c + k)] [] (qW S m) = zF_233 e 174 [vr 37, vi c, vi g, vi at_, vi (24 * c + N)] [] (qW S m') ∧ qfr [70] [] (zm S) m' ∧ (∀ i, at_ < i → i ≤ L.length → m' 70 i = F i) ∧ m' 70 at_ = qdf (quR T g (qnth L) L.length F at_) f k v := by
    intro at_ F hat f
    induction f with
    | zero =>
      intro k v m h2 h3 hvb hq hF hv
      have hk : k = N := by omega
      subst hk
      refine ⟨m, ?_, hq, hF, hv⟩
      rw [b233_107]
      simp (config := { maxSteps := 2000000 }) (disch := first | omega | (simp only [K_37 hK, K_39 hK, P_37_5 hP, P_37_5 (kP hq), qb_in, qkW, qmW, qnW, true_and, and_true, or_self, true_or, or_true, and_self]; done) | (simp only [K_37 hK, K_39 hK, P_37_5 hP, P_37_5 (kP hq), qb_in, qkW, qmW, qnW, true_and, and_true, or_self, true_or, or_true, and_self]; omega)) only [b233_0, b233_8, b233_11, b233_14, b233_16, b233_22, b233_32, b233_50, b233_66, b233_71, b233_85, b233_88, b233_92, b233_100, b233_123, b233_136, b233_142, b233_145, b233_160, b233_165, b233_166, b233_180, qcall_l, qcall_r, qretn_l, qJ_s, qJ_n, qV0, qEx, ↓qif0, ↓zchk_pos, ↓reduceIte, qput, qWW, qmW, qkW, qnW, K_37 hK, K_39 hK, P_37_5 hP, P_37_5 (kP hq), (kc hq).2.1, Int.lt_irrefl, q32]
    | succ f ih =>
      intro k v m h2 h3 hvb hq hF hv
      have cw := r_canRead e (qW S m) c N k g at_ L.length T (qnth L) (by omega) hK (kP hq) (kc hq) hT ⟨h2, by omega⟩ (kr hq) ⟨hat.1, hat.2, by omega⟩
      obtain ⟨-, -, -, -, t4, -⟩ := (kc hq).2.2.2 k h2 (by omega)
      rw [b233_107]
      by_cases c0 : qc (qCR T k g (qnth L) L.length at_) = 0
      · rw [c0] at cw
        have hq1 : qfr [70] [] (zm S) (qu m 70 at_ v) := qfr_t' hq (qfr_a _ _ _ _ (by decide) (by decide)) (fun _ h => h) fun _ h => h
        have ev : z64 v = v := q64 hvb
        obtain ⟨m', r, p⟩ := ih (k + 1) v (qu m 70 at_ v) (by omega) (by omega) hvb hq1 (fun i i1 i2 => by rw [qu_i _ _ _ _ _ (by omega)]; exact hF i i1 i2) (qu_s _ _ _ _)
        refine ⟨m', ?_, ?_⟩
        · simp (config := { maxSteps := 2000000 }) (disch := first | omega | (simp only [K_37 hK, K_39 hK, P_37_5 hP, K_70 hK, P_37_49 hP, P_37_5 (kP hq), P_37_49 (kP hq), qb_in, qkW, qmW, qnW, true_and, and_true, or_self, true_or, or_true, and_self]; done) | (simp only [K_37 hK, K_39 hK, P_37_5 hP, K_70 hK, P_37_49 hP, P_37_5 (kP hq), P_37_49 (kP hq), qb_in, qkW, qmW, qnW, true_and, and_true, or_self, true_or, or_true, and_self]; omega)) only [b233_0, b233_8, b233_11, b233_14, b233_16, b233_22, b233_32, b233_50, b233_66, b233_71, b233_85, b233_88, b233_92, b233_100, b233_123, b233_136, b233_142, b233_145, b233_160, b233_165, b233_166, b233_180, qcall_l, qcall_r, qretn_l, qJ_s, qJ_n, qV0, qEx, ↓qif0, ↓zchk_pos, ↓reduceIte, qput, qWW, qmW, qkW, qnW, K_37 hK, K_39 hK, P_37_5 hP, K_70 hK, P_37_49 hP, P_37_5 (kP hq), P_37_49 (kP hq), (kc hq).2.1, kl hq, if_pos (show 24 * c + k < 24 * c + N by omega), cw, hv, Int.add_zero, ev, q32]
          rw [show 24 * c + k + 1 = 24 * c + (k + 1) by omega]
          exact r
        · have e1 : qdf (quR T g (qnth L) L.length F at_) (f + 1) k v = qdf (quR T g (qnth L) L.length F at_) f (k + 1) v := by
            show qdf _ f (k + 1) (quR T g (qnth L) L.length F at_ k v) = _
            unfold quR
            rw [if_pos c0]
          rw [e1]
          exact p
      · have hcw := qc_1 c0
        have h5 := hcw.2.1
        have hcn := qcn_r (T 4 k)
        have gF := hF (at_ + qcn (T 4 k)) (by omega) (by omega)
        have cc := r_cellsOf' e (qW S m) (T 4 k) (by omega)
        rw [qc_p hcw] at cw
        generalize hV : z64 (v + F (at_ + qcn (T 4 k))) = V
        have hVb : qi64 V := hV ▸ z64_r _
        have hq1 : qfr [70] [] (zm S) (qu m 70 at_ V) := qfr_t' hq (qfr_a _ _ _ _ (by decide) (by decide)) (fun _ h => h) fun _ h => h
        obtain ⟨m', r, p⟩ := ih (k + 1) V (qu m 70 at_ V) (by omega) (by omega) hVb hq1 (fun i i1 i2 => by rw [qu_i _ _ _ _ _ (by omega)]; exact hF i i1 i2) (qu_s _ _ _ _)
        refine ⟨m', ?_, ?_⟩
        · simp (config := { maxSteps := 2000000 }) (disch := first | omega | (simp only [K_37 hK, K_39 hK, P_37_5 hP, K_70 hK, P_37_49 hP, K_43 hK, P_37_9 hP, P_37_5 (kP hq), P_37_9 (kP hq), P_37_49 (kP hq), q32, qb_in, qkW, qmW, qnW, true_and, and_true, or_self, true_or, or_true, and_self]; done) | (simp only [K_37 hK, K_39 hK, P_37_5 hP, K_70 hK, P_37_49 hP, K_43 hK, P_37_9 hP, P_37_5 (kP hq), P_37_9 (kP hq), P_37_49 (kP hq), q32, qb_in, qkW, qmW, qnW, true_and, and_true, or_self, true_or, or_true, and_self]; omega)) only [b233_0, b233_8, b233_11, b233_14, b233_16, b233_22, b233_32, b233_50, b233_66, b233_71, b233_85, b233_88, b233_92, b233_100, b233_123, b233_136, b233_142, b233_145, b233_160, b233_165, b233_166, b233_180, qcall_l, qcall_r, qretn_l, qJ_s, qJ_n, qV0, qEx, ↓qif0, ↓zchk_pos, ↓reduceIte, qput, qWW, qmW, qkW, qnW, K_37 hK, K_39 hK, P_37_5 hP, K_70 hK, P_37_49 hP, K_43 hK, P_37_9 hP, P_37_5 (kP hq), P_37_9 (kP hq), P_37_49 (kP hq), (kc hq).2.1, kl hq, t4, cc, if_pos (show 24 * c + k < 24 * c + N by omega), cw, hv, gF, hV, Int.reduceEq, q32]
          rw [show 24 * c + k + 1 = 24 * c + (k + 1) by omega]
          exact r
        · have e1 : qdf (quR T g (qnth L) L.length F at_) (f + 1) k v = qdf (quR T g (qnth L) L.length F at_) f (k + 1) V := by
            show qdf _ f (k + 1) (quR T g (qnth L) L.length F at_ k v) = _
            unfold quR
            rw [if_neg c0, hV]
          rw [e1]
          exact p
  have outer : ∀ (f j : Nat) (m : Int → Int → Int) (y4 : zV), j + f = L.length → qfr [70] [] (zm S) m → (∀ i, (L.length : Int) - j ≤ i → i ≤ L.length → m 70 i = qtab L.length 1 (qsR T N g (qnth L) L.length) j i) →
      ∃ m', zF_233 e 67 [vr 37, vi c, vi g, vi ((L.length : Int) - j - 1), y4] [] (qW S m) = some (.inl (some (vl (qtab L.length 1 (qsR T N g (qnth L) L.length) L.length 0))), qW S m') ∧ qfr [70] [] (zm S) m' := by
    intro f
    induction f with
    | zero =>
      intro j m y4 h2 hq hF
      have g1 := hF 0 (by omega) (by omega)
      rw [show j = L.length by omega] at g1
      refine ⟨m, ?_, hq⟩
      rw [b233_67]
      simp (config := { maxSteps := 2000000 }) (disch := first | omega | (simp only [K_37 hK, K_70 hK, P_37_49 hP, P_37_49 (kP hq), qb_in, qkW, qmW, qnW, true_and, and_true, or_self, true_or, or_true, and_self]; done) | (simp only [K_37 hK, K_70 hK, P_37_49 hP, P_37_49 (kP hq), qb_in, qkW, qmW, qnW, true_and, and_true, or_self, true_or, or_true, and_self]; omega)) only [b233_0, b233_8, b233_11, b233_14, b233_16, b233_22, b233_32, b233_50, b233_66, b233_71, b233_85, b233_88, b233_92, b233_100, b233_123, b233_136, b233_142, b233_145, b233_160, b233_165, b233_166, b233_174, b233_180, qcall_l, qcall_r, qretn_l, qJ_s, qJ_n, qV0, qEx, ↓qif0, ↓zchk_pos, ↓reduceIte, qput, qWW, qmW, qkW, qnW, K_37 hK, K_70 hK, P_37_49 hP, P_37_49 (kP hq), g1, if_pos (show (L.length : Int) - j - 1 < 0 by omega)]
    | succ f ih =>
      intro j m y4 h2 hq hF
      have g1 := hF ((L.length : Int) - j - 1 + 1) (by omega) (by omega)
      have gl := kr hq ((L.length : Int) - j - 1) (by omega) (by omega)
      have lo := r_letterOf e (qW S m) (qnth L ((L.length : Int) - j - 1)) (by omega)
      have hlr := qlo_r (qnth L ((L.length : Int) - j - 1))
      have hq1 : ∀ v, qfr [70] [] (zm S) (qu m 70 ((L.length : Int) - j - 1) v) := fun v => qfr_t' hq (qfr_a _ _ _ _ (by decide) (by decide)) (fun _ h => h) fun _ h => h
      obtain ⟨m1, r1, q1, F1, v1⟩ := inner ((L.length : Int) - j - 1) (qtab L.length 1 (qsR T N g (qnth L) L.length) j) (by omega) N.toNat 0 (if qlo (qnth L ((L.length : Int) - j - 1)) = -1 then 0 else qtab L.length 1 (qsR T N g (qnth L) L.length) j ((L.length : Int) - j - 1 + 1)) _ (by omega) (by omega) (by
        split
        · exact ⟨by decide, by decide⟩
        · exact hb _ _) (hq1 (if qlo (qnth L ((L.length : Int) - j - 1)) = -1 then 0 else qtab L.length 1 (qsR T N g (qnth L) L.length) j ((L.length : Int) - j - 1 + 1))) (fun i i1 i2 => by rw [qu_i _ _ _ _ _ (by omega)]; exact hF i (by omega) i2) (qu_s _ _ _ _)
      obtain ⟨m2, r2, q2⟩ := ih (j + 1) m1 vu (by omega) q1 (fun i i1 i2 => by
        show _ = if i = (L.length : Int) - ((j : Int) + 1) then _ else _
        by_cases c : i = (L.length : Int) - ((j : Int) + 1)
        · rw [if_pos c, c, show (L.length : Int) - ((j : Int) + 1) = L.length - j - 1 by omega]
          exact v1
        · rw [if_neg c]
          exact F1 i (by omega) i2)
      refine ⟨m2, ?_, q2⟩
      rw [b233_67]
      rw [show 24 * c + 0 = 24 * c by omega] at r1
      by_cases c1 : qlo (qnth L ((L.length : Int) - j - 1)) = -1
      · rw [if_pos c1] at r1
        rw [show qlv (qnth L ((L.length : Int) - j - 1)) = 0 from if_pos c1] at lo
        simp (config := { maxSteps := 2000000 }) (disch := first | omega | (simp only [K_37 hK, K_70 hK, P_37_49 hP, K_68 hK, P_37_47 hP, P_37_47 (kP hq), P_37_49 (kP hq), q32, qb_in, qkW, qmW, qnW, true_and, and_true, or_self, true_or, or_true, and_self]; done) | (simp only [K_37 hK, K_70 hK, P_37_49 hP, K_68 hK, P_37_47 hP, P_37_47 (kP hq), P_37_49 (kP hq), q32, qb_in, qkW, qmW, qnW, true_and, and_true, or_self, true_or, or_true, and_self]; omega)) only [b233_0, b233_8, b233_11, b233_14, b233_16, b233_22, b233_32, b233_50, b233_66, b233_71, b233_85, b233_88, b233_92, b233_100, b233_123, b233_136, b233_142, b233_145, b233_160, b233_165, b233_166, b233_174, b233_180, qcall_l, qcall_r, qretn_l, qJ_s, qJ_n, qV0, qEx, ↓qif0, ↓zchk_pos, ↓reduceIte, qput, qWW, qmW, qkW, qnW, K_37 hK, K_70 hK, P_37_49 hP, K_68 hK, P_37_47 hP, P_37_47 (kP hq), P_37_49 (kP hq), g1, gl, lo, if_neg (show ¬ (L.length : Int) - j - 1 < 0 by omega), q32]
        rw [r1, b233_174]
        simp (disch := omega) only [q32]
        rw [show (L.length : Int) - (j : Int) - 1 + -1 = L.length - ((j + 1 : Nat) : Int) - 1 by omega]
        exact r2
      · rw [if_neg c1] at r1
        rw [show qlv (qnth L ((L.length : Int) - j - 1)) = qlo (qnth L ((L.length : Int) - j - 1)) + 97 from if_neg c1] at lo
        simp (config := { maxSteps := 2000000 }) (disch := first | omega | (simp only [K_37 hK, K_70 hK, P_37_49 hP, K_68 hK, P_37_47 hP, P_37_47 (kP hq), P_37_49 (kP hq), q32, qb_in, qkW, qmW, qnW, true_and, and_true, or_self, true_or, or_true, and_self]; done) | (simp only [K_37 hK, K_70 hK, P_37_49 hP, K_68 hK, P_37_47 hP, P_37_47 (kP hq), P_37_49 (kP hq), q32, qb_in, qkW, qmW, qnW, true_and, and_true, or_self, true_or, or_true, and_self]; omega)) only [b233_0, b233_8, b233_11, b233_14, b233_16, b233_22, b233_32, b233_50, b233_66, b233_71, b233_85, b233_88, b233_92, b233_100, b233_123, b233_136, b233_142, b233_145, b233_160, b233_165, b233_166, b233_174, b233_180, qcall_l, qcall_r, qretn_l, qJ_s, qJ_n, qV0, qEx, ↓qif0, ↓zchk_pos, ↓reduceIte, qput, qWW, qmW, qkW, qnW, K_37 hK, K_70 hK, P_37_49 hP, K_68 hK, P_37_47 hP, P_37_47 (kP hq), P_37_49 (kP hq), g1, gl, lo, if_neg (show ¬ (L.length : Int) - j - 1 < 0 by omega), if_neg (show ¬ qlo (qnth L ((L.length : Int) - j - 1)) + 97 = 0 by omega), q32]
        rw [r1, b233_174]
        simp (disch := omega) only [q32]
        rw [show (L.length : Int) - (j : Int) - 1 + -1 = L.length - ((j + 1 : Nat) : Int) - 1 by omega]
        exact r2
  have hq0 : qfr [70] [] (zm S) (qu (zm S) 70 L.length 1) := qfr_a _ _ _ _ (by decide) (by decide)
  obtain ⟨m1, r1, q1⟩ := outer L.length 0 (qu (zm S) 70 L.length 1) vu (by omega) hq0 (fun i i1 i2 => by
    have : i = L.length := by omega
    rw [this, qu_s]
    show 1 = if (L.length : Int) = L.length then 1 else 0
    rw [if_pos rfl])
  refine ⟨m1, ?_, q1⟩
  have e36 : qu (zm S) 70 L.length 1 37 = zm S 37 := qu_o _ _ _ _ _ (by decide)
  rw [show (L.length : Int) - ((0 : Nat) : Int) - 1 = L.length - 1 by omega] at r1
  rw [b233_50]
  simp (config := { maxSteps := 2000000 }) (disch := first | omega | (simp only [K_37 hK, K_70 hK, P_37_49 hP, P_37_49 hP, hl, e36, qb_in, qkW, qmW, qnW, true_and, and_true, or_self, true_or, or_true, and_self]; done) | (simp only [K_37 hK, K_70 hK, P_37_49 hP, P_37_49 hP, hl, e36, qb_in, qkW, qmW, qnW, true_and, and_true, or_self, true_or, or_true, and_self]; omega)) only [b233_0, b233_8, b233_11, b233_14, b233_16, b233_22, b233_32, b233_50, b233_66, b233_71, b233_85, b233_88, b233_92, b233_100, b233_123, b233_136, b233_142, b233_145, b233_160, b233_165, b233_166, b233_174, b233_180, qcall_l, qcall_r, qretn_l, qJ_s, qJ_n, qV0, qEx, ↓qif0, ↓zchk_pos, ↓reduceIte, qput, qWW, qmW, qkW, qnW, K_37 hK, K_70 hK, P_37_49 hP, P_37_49 hP, hl, e36, q32, r1]
