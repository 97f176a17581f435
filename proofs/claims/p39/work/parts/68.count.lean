/-! Questions that count: both answers. -/
theorem s_spellLetters_n (d : Nat) (S : zS) (g : Int) (h : 5 ≤ d) (hK : qK S) (hP : qP (zm S)) (hT : qRT S) (ho : ¬ ((0 ≤ g ∧ g ≤ 3) ∧ qOne S)) : zD d 160 [vr 3, vi g] S = some (.inr (if 0 ≤ g ∧ g ≤ 3 then 1 else 0), zbump S) := by
  obtain ⟨e, rfl, h1⟩ := qd h
  by_cases c2 : 0 ≤ g ∧ g ≤ 3
  · have cg := s_checkGrade_y e S g (by omega) c2
    have so := s_spellOne_n e S (by omega) hK hP hT fun q => ho ⟨c2, q⟩
    rw [if_pos c2]
    simp (config := { maxSteps := 2000000 }) (disch := first | omega | (simp only [K_3 hK, qb_in, qkW, qmW, qnW, true_and, and_true, or_self, true_or, or_true, and_self]; done) | (simp only [K_3 hK, qb_in, qkW, qmW, qnW, true_and, and_true, or_self, true_or, or_true, and_self]; omega)) only [zD_160, b160_0, b160_4, b160_8, b160_18, b160_29, qcall_l, qcall_r, qretn_l, qJ_s, qJ_n, qV0, qEx, ↓qif0, ↓zchk_pos, ↓reduceIte, qput, qWW, qmW, qkW, qnW, K_3 hK, cg, so]
  · have cg := s_checkGrade_n e S g (by omega) c2
    rw [if_neg c2]
    simp (config := { maxSteps := 2000000 }) (disch := first | omega | (simp only [K_3 hK, qb_in, qkW, qmW, qnW, true_and, and_true, or_self, true_or, or_true, and_self]; done) | (simp only [K_3 hK, qb_in, qkW, qmW, qnW, true_and, and_true, or_self, true_or, or_true, and_self]; omega)) only [zD_160, b160_0, b160_4, b160_8, b160_18, b160_29, qcall_l, qcall_r, qretn_l, qJ_s, qJ_n, qV0, qEx, ↓qif0, ↓zchk_pos, ↓reduceIte, qput, qWW, qmW, qkW, qnW, K_3 hK, cg]
theorem s_spellLetters_y (d : Nat) (S : zS) (W : List Int) (dg st bg mk E g : Int) (h : 6 ≤ d) (hK : qK S) (hP : qP (zm S)) (hT : qRT S) (hC : qRC S) (hg : 0 ≤ g ∧ g ≤ 3) (ho : qOne S) (hdg : dg = 0 ∨ dg = 1)
    (hs : ∀ (d : Nat) (S' : zS) (a b : Int), 4 ≤ d → qK S' → zm S' 4 0 = 5 → zm S' 4 1 = zm S 37 2 → (∀ i, i < zm S 37 2 → zm S' 5 i = zm S 38 i) → qSk S' a b → zm S' a 0 = b → ∃ m', zD d 97 [vr 4, vi 0, vr a] S' = some (.inl (some (vi E)), qW S' m') ∧ qSq m' a b W st dg bg (qmc mk) ∧ qfs a b (zm S') m') :
    ∃ m', zD d 160 [vr 3, vi g] S = (if dg = 0 then some (.inl none, qW S m') else some (.inr 1, zbump (qW S m'))) ∧ qSq m' 18 19 W st dg bg (qmc mk) ∧ qFq S m' := by
  obtain ⟨e, rfl, h1⟩ := qd h
  have cg := s_checkGrade_y e S g (by omega) hg
  obtain ⟨m1, r1, p1, f1⟩ := s_spellOne_y e S W dg st bg mk E (by omega) hK hP hT ho hs
  have q1 : qFq S m1 := qFq_18 f1
  have hP1 := qFq_P hC hP q1
  have p3 := p1.2.2.2.1
  refine ⟨m1, ?_, p1, q1⟩
  rcases hdg with c | c
  · rw [if_pos c]
    simp (config := { maxSteps := 2000000 }) (disch := first | omega | (simp only [K_3 hK, K_18 hK, P_3_14 hP, P_3_14 hP1, qb_in, qkW, qmW, qnW, true_and, and_true, or_self, true_or, or_true, and_self]; done) | (simp only [K_3 hK, K_18 hK, P_3_14 hP, P_3_14 hP1, qb_in, qkW, qmW, qnW, true_and, and_true, or_self, true_or, or_true, and_self]; omega)) only [zD_160, b160_0, b160_4, b160_8, b160_18, b160_29, qcall_l, qcall_r, qretn_l, qJ_s, qJ_n, qV0, qEx, ↓qif0, ↓zchk_pos, ↓reduceIte, qput, qWW, qmW, qkW, qnW, K_3 hK, K_18 hK, P_3_14 hP, P_3_14 hP1, cg, r1, p3, if_pos c]
  · rw [if_neg (show ¬ dg = 0 by omega)]
    simp (config := { maxSteps := 2000000 }) (disch := first | omega | (simp only [K_3 hK, K_18 hK, P_3_14 hP, P_3_14 hP1, qb_in, qkW, qmW, qnW, true_and, and_true, or_self, true_or, or_true, and_self]; done) | (simp only [K_3 hK, K_18 hK, P_3_14 hP, P_3_14 hP1, qb_in, qkW, qmW, qnW, true_and, and_true, or_self, true_or, or_true, and_self]; omega)) only [zD_160, b160_0, b160_4, b160_8, b160_18, b160_29, qcall_l, qcall_r, qretn_l, qJ_s, qJ_n, qV0, qEx, ↓qif0, ↓zchk_pos, ↓reduceIte, qput, qWW, qmW, qkW, qnW, K_3 hK, K_18 hK, P_3_14 hP, P_3_14 hP1, cg, r1, p3, if_neg (show ¬ dg = 0 by omega)]
/-- errors of questions that need letters -/
theorem q_cerr (d : Nat) (S : zS) (code g : Int) (h : 8 ≤ d) (hK : qK S) (hP : qP (zm S)) (hT : qRT S) (hC : qRC S) (ho : ¬ ((0 ≤ code ∧ code < zm S 37 4) ∧ (0 ≤ g ∧ g ≤ 3) ∧ qOne S)) :
    ∃ x, (x = 2 ∧ zD d 152 [vr 3, vi code] S = some (.inr 2, zbump S) ∨ zD d 152 [vr 3, vi code] S = some (.inl (some (vr (zm S 6 code))), S) ∧ zD d 160 [vr 3, vi g] S = some (.inr x, zbump S)) ∧
      zD d 227 [vr 37, vi code, vi g, vi 1] (zbump S) = some (.inl (some (vi (qps3 x))), zbump S) ∧ zD d 182 [vr 37, vi (qps3 x)] (zbump S) = some (.inl (some (vi 0)), qW (zbump S) (qu (zm S) 37 0 (qps3 x))) ∧ ¬ qps3 x = 0 := by
  have r2 := r_errorOfWord_n d (zbump S) code g 1 (by omega) hK hP hT hC (by decide) ho
  have r2 : zD d 227 [vr 37, vi code, vi g, vi 1] (zbump S) = some (.inl (some (vi (if ¬ (0 ≤ code ∧ code < zm S 37 4) then 1 else if ¬ (0 ≤ g ∧ g ≤ 3) then 2 else 3))), zbump S) := r2
  have hd : ∀ x : Nat, ¬ qps3 x = 0 → zD d 182 [vr 37, vi (qps3 x)] (zbump S) = some (.inl (some (vi 0)), qW (zbump S) (qu (zm S) 37 0 (qps3 x))) := fun x hx => by
    have := r_holds d (zbump S) (qps3 x) (by omega) hK
    rw [qb_n hx] at this
    exact this
  by_cases c1 : 0 ≤ code ∧ code < zm S 37 4
  · rw [if_neg fun z => z c1] at r2
    have co := s_codeOf_y d S code (by omega) hK hP hC c1
    by_cases c2 : 0 ≤ g ∧ g ≤ 3
    · rw [if_neg fun z => z c2] at r2
      have sl := s_spellLetters_n d S g (by omega) hK hP hT fun q => ho ⟨c1, q⟩
      rw [if_pos c2] at sl
      exact ⟨1, Or.inr ⟨co, sl⟩, r2, hd 1 (by decide), by decide⟩
    · rw [if_pos c2] at r2
      have sl := s_spellLetters_n d S g (by omega) hK hP hT fun q => ho ⟨c1, q⟩
      rw [if_neg c2] at sl
      exact ⟨0, Or.inr ⟨co, sl⟩, r2, hd 0 (by decide), by decide⟩
  · rw [if_pos c1] at r2
    exact ⟨2, Or.inl ⟨rfl, s_codeOf_n d S code (by omega) hK hC c1⟩, r2, hd 2 (by decide), by decide⟩
theorem qFq_fd {S : zS} {m m' : Int → Int → Int} {code : Int} (hC : qRC S) (hc : 0 ≤ code ∧ code < zm S 37 4) (q : qFq S m) (f : ∀ x, x ≠ zm S 6 code + 2 → m' x = m x) : qFq S m' := fun x j z => by
  by_cases c : x = zm S 6 code + 2
  · exact absurd (Or.inr ⟨code, hc.1, hc.2, Or.inl c⟩) z
  · rw [f x c]
    exact q x j z
theorem qFq_w {S : zS} {m m' : Int → Int → Int} (q : qFq S m) (hP : qP m) (f : qfw 20 21 22 m m') (h0 : m' 20 0 = 21) (h4 : m' 20 4 = 22) : qFq S m' := fun x j z => by
  by_cases c20 : x = 20
  · subst c20
    by_cases j0 : j = 0
    · rw [j0, h0, ← P_20_0 hP]
      exact q _ _ (by rw [← j0]; exact z)
    · by_cases j4 : j = 4
      · rw [j4, h4, ← P_20_4 hP]
        exact q _ _ (by rw [← j4]; exact z)
      · exact absurd (Or.inl (by unfold qscf; omega)) z
  · by_cases c21 : x = 21
    · exact absurd (Or.inl (by unfold qscf; omega)) z
    · by_cases c22 : x = 22
      · exact absurd (Or.inl (by unfold qscf; omega)) z
      · rw [f x c20 c21 c22]
        exact q x j z
/-- the spelled word's division, for questions that count -/
theorem q_cdiv (e : Nat) (S : zS) (W : List Int) (st bg mk code g : Int) (m1 : Int → Int → Int) (h : 3 ≤ e) (hK : qK S) (hP : qP (zm S)) (hL : qLt (zm S)) (hC : qRC S) (hR : qRD S) (hc : 0 ≤ code ∧ code < zm S 37 4) (hW : 0 < W.length ∧ W.length ≤ 10) (q1 : qFq S m1) (p1 : qSq m1 18 19 W st 0 bg mk) :
    qCo (qW S m1) (zm S 6 code) (zm S 39 code) (qTm (zm S) code) ∧ qTok (qTm (zm S) code) (zm S 39 code) ∧ m1 (zm S 6 code) 2 = zm S 6 code + 2 ∧ zk S (zm S 6 code + 2) = (1, 17) ∧ zk S (zm S 6 code) = (22, 0) ∧
    ∃ D, zD e 163 [vr 3, vr 19, vi W.length] (qW S m1) = some (.inl (some (vr D)), qW S m1) ∧ qDo (qW S m1) D (qPw (zm S) W 0) W.length ∧ (D ≠ 0 → m1 D 2 ≠ 22) ∧ (qpl (qPw (zm S) W 0) W.length W.length).length ≤ 4 := by
  have hP1 := qFq_P hC hP q1
  have hC1 := qRC_q hC q1
  obtain ⟨D, r2, p2, p3, p4, -⟩ := s_divisionOf e (qW S m1) 19 W (by omega) hK hP1 (qRD_q hC hR q1) (K_19 hK) p1.2.2.2.2.2.2 hW
  have eP : qPw (zm (qW S m1)) W 0 = qPw (zm S) W 0 := qPw_q hC q1 W 0
  rw [eP] at p2 p4
  obtain ⟨z1, z2, z3, z4⟩ := hC1.2.2.1 code hc.1 (by show code < m1 37 4; rw [qFq_37 hC q1 4 (by unfold qscf; omega)]; exact hc.2)
  have e6 : m1 6 = zm S 6 := qFq_x hC q1 (by decide) fun j => by unfold qscf; omega
  have e39 : m1 39 = zm S 39 := qFq_tb hC q1 39 (by decide) (by decide)
  have eT : qTm m1 code = qTm (zm S) code := qTm_e (qFq_tb hC q1) code
  simp only [qmW, e6, e39, eT] at z1 z2 z3
  exact ⟨z2, z3, z1.2.2.2.2.2.2.1, z1.2.2.1, z1.1, D, r2, p2, fun q => by
    have a := (p3 q).2.2.2.2.1
    have b := (p3 q).2.2.2.2.2.1
    simp only [qmW] at a
    omega, p4⟩
theorem q_least (d : Nat) (S : zS) (code g : Int) (h : 12 ≤ d) (hK : qK S) (hP : qP (zm S)) (hL : qLt (zm S)) (hT : qRT S) (hC : qRC S) (hR : qRD S) : qAsk vi S (zD d 124 [vr 3, vi code, vi g] S) (zD d 231 [vr 37, vi code, vi g]) qps3 := by
  obtain ⟨e, rfl, h1⟩ := qd h
  have key : ∀ (Z : zS) (m2 : Int → Int → Int) (p : Int), qK Z → zD e 227 [vr 37, vi code, vi g, vi 1] Z = some (.inl (some (vi p)), qW Z m2) → zD e 182 [vr 37, vi p] (qW Z m2) = some (.inl (some (vi 0)), qW Z (qu m2 37 0 p)) → zD (e + 1) 231 [vr 37, vi code, vi g] Z = some (.inl (some (vi 0)), qW Z (qu m2 37 0 p)) := by
    intro Z m2 p hK r2 hd
    simp (config := { maxSteps := 2000000 }) (disch := first | omega | (simp only [K_37 hK, qb_in, qkW, qmW, qnW, true_and, and_true, or_self, true_or, or_true, and_self]; done) | (simp only [K_37 hK, qb_in, qkW, qmW, qnW, true_and, and_true, or_self, true_or, or_true, and_self]; omega)) only [zD_231, b231_0, b231_8, b231_11, b231_14, b231_16, b231_32, b231_37, b231_51, b231_75, b231_83, b231_86, b231_96, b231_111, b231_115, b231_118, b231_134, b231_137, b231_142, b231_148, b231_155, b231_161, qcall_l, qcall_r, qretn_l, qJ_s, qJ_n, qV0, qEx, ↓qif0, ↓zchk_pos, ↓reduceIte, qput, qWW, qmW, qkW, qnW, K_37 hK, r2, hd, Int.reduceEq]
  by_cases ho : (0 ≤ code ∧ code < zm S 37 4) ∧ (0 ≤ g ∧ g ≤ 3) ∧ qOne S
  · obtain ⟨hc, hg, h0⟩ := ho
    obtain ⟨W, dg, st, bg, mk, E, hw, hdg, hs, ht⟩ := q_prep S code g hK hP hL hT hC hR hc hg h0
    have hWl := hw.1
    have co := s_codeOf_y e S code (by omega) hK hP hC hc
    obtain ⟨m1, r1, p1, q1⟩ := s_spellLetters_y e S W dg st bg mk E g (by omega) hK hP hT hC hg h0 hdg hs
    rcases hdg with c | c
    · subst c
      rw [if_pos rfl] at r1
      have hP1 := qFq_P hC hP q1
      obtain ⟨z2, z3, zf, kf, ka, D, r3, p3, p4, p5⟩ := q_cdiv e S W st bg (qmc mk) code g m1 (by omega) hK hP hL hC hR hc hw.1 q1 p1
      obtain ⟨s0, s1, -, -, -, -, s6⟩ := p1
      obtain ⟨m3, r4, f4⟩ := s_fewestCells e (qW S m1) (zm S 6 code) (zm S 39 code) g 18 19 D (qPw (zm S) W 0) W.length (zm S 6 code + 2) (qTm (zm S) code) (qnth W) (by omega) z2 z3 (K_18 hK) s0 (K_19 hK) s1 (by omega) (fun j j1 j2 => qA_n s6 j j1 j2) p3 zf kf
      have q3 := qFq_fd hC hc q1 f4
      refine Or.inl ⟨(z32 (qtab W.length 0 (qsL (qTm (zm S) code) (zm S 39 code) g (qnth W) (qPw (zm S) W 0) W.length) ((W.length : Int)).toNat 0)), m3, ?_, qFq_1 hC q3, fun o => ?_⟩
      · simp (config := { maxSteps := 2000000 }) (disch := first | omega | (simp only [K_3 hK, K_18 hK, P_3_14 hP, P_3_14 hP1, s0, ka, qb_in, qkW, qmW, qnW, true_and, and_true, or_self, true_or, or_true, and_self]; done) | (simp only [K_3 hK, K_18 hK, P_3_14 hP, P_3_14 hP1, s0, ka, qb_in, qkW, qmW, qnW, true_and, and_true, or_self, true_or, or_true, and_self]; omega)) only [zD_124, b124_0, b124_5, b124_11, b124_31, b124_34, b124_38, qcall_l, qcall_r, qretn_l, qJ_s, qJ_n, qV0, qEx, ↓qif0, ↓zchk_pos, ↓reduceIte, qput, qWW, qmW, qkW, qnW, K_3 hK, K_18 hK, P_3_14 hP, P_3_14 hP1, co, r1, s0, s1, r3, r4, ka]
      obtain ⟨m2, r2, z2, p2⟩ := ht e 1 S (qu m3 102 0 o) (Or.inl rfl) (by omega) (by decide) (qFq_o q3 o)
      rw [if_neg (by decide)] at r2
      have hd := r_holds e (qW S m2) 0 (by omega) hK
      rw [qb_p rfl] at hd
      have q5 := (p2 0).2
      have hC5 := qRC_q hC q5
      have e39 : (qu m2 37 0 0) 39 = zm S 39 := qFq_tb hC q5 39 (by decide) (by decide)
      have eT : qTm (qu m2 37 0 0) code = qTm (zm S) code := qTm_e (qFq_tb hC q5) code
      have hr := qRC_r hC5 hc.1 (by show code < qu m2 37 0 0 37 4; rw [qFq_37 hC q5 4 (by unfold qscf; omega)]; exact hc.2)
      simp only [qmW, e39, eT] at hr
      obtain ⟨m4, r5, f5⟩ := r_least16 e (qW S (qu m2 37 0 0)) code (zm S 39 code) g W.length (qPw (zm S) W 0) (qTm (zm S) code) (qnth W) vu vu vu vu (by omega) hK (qFq_P hC hP q5) hr z3 (qRx_w (p2 0).1) (by omega)
      refine ⟨m4, ?_, ?_, by rw [f5.1 102 (by decide) (by decide)]; show qu m2 37 0 0 102 0 = o; rw [qu_o _ _ _ _ _ (by decide), z2, qu_s], qFq_t hC q5 (qFq_r37 (S := qW S _) f5 (by decide) (by decide))⟩
      · simp (config := { maxSteps := 2000000 }) (disch := first | omega | (simp only [K_37 hK, qb_in, qkW, qmW, qnW, true_and, and_true, or_self, true_or, or_true, and_self]; done) | (simp only [K_37 hK, qb_in, qkW, qmW, qnW, true_and, and_true, or_self, true_or, or_true, and_self]; omega)) only [zD_231, b231_0, b231_8, b231_11, b231_14, b231_32, b231_37, b231_51, b231_75, b231_83, b231_86, b231_96, b231_111, b231_115, b231_118, b231_134, b231_137, b231_142, b231_148, b231_155, b231_161, qcall_l, qcall_r, qretn_l, qJ_s, qJ_n, qV0, qEx, ↓qif0, ↓zchk_pos, ↓reduceIte, qput, qWW, qmW, qkW, qnW, K_37 hK, r2, hd, Int.reduceEq, qmW]
        exact r5
      · rw [f5.2 0 (by simp)]
        exact qu_s m2 37 0 0
    · rw [if_neg (by omega)] at r1
      obtain ⟨m2, r2, -, p2⟩ := ht e 1 (zbump S) m1 (Or.inr rfl) (by omega) (by decide) q1
      rw [if_pos ⟨rfl, c⟩] at r2
      have hd := r_holds e (qW (zbump S) m2) 3 (by omega) hK
      rw [qb_n (by decide)] at hd
      refine Or.inr ⟨1, 0, m1, qu m2 37 0 3, ?_, qFq_1 hC q1, ?_, qu_s _ _ _ _, by decide, (p2 3).2⟩
      · simp (config := { maxSteps := 2000000 }) (disch := first | omega | (simp only [K_3 hK, qb_in, qkW, qmW, qnW, true_and, and_true, or_self, true_or, or_true, and_self]; done) | (simp only [K_3 hK, qb_in, qkW, qmW, qnW, true_and, and_true, or_self, true_or, or_true, and_self]; omega)) only [zD_124, b124_0, b124_5, b124_11, b124_31, b124_34, b124_38, qcall_l, qcall_r, qretn_l, qJ_s, qJ_n, qV0, qEx, ↓qif0, ↓zchk_pos, ↓reduceIte, qput, qWW, qmW, qkW, qnW, K_3 hK, co, r1]
      · exact key (qW (zbump S) m1) m2 3 hK r2 hd
  · obtain ⟨x, hx, r2, hd, hx0⟩ := q_cerr e S code g (by omega) hK hP hT hC ho
    refine Or.inr ⟨x, 0, zm S, qu (zm S) 37 0 (qps3 x), ?_, rfl, ?_, qu_s _ _ _ _, hx0, qFq_r37 (A := []) (J := [0]) (qfr_j _ _ _ (by simp)) (by decide) (by decide)⟩
    · rw [qWS]
      rcases hx with ⟨rfl, co⟩ | ⟨co, sl⟩
      · simp (config := { maxSteps := 2000000 }) (disch := first | omega | (simp only [K_3 hK, qb_in, qkW, qmW, qnW, true_and, and_true, or_self, true_or, or_true, and_self]; done) | (simp only [K_3 hK, qb_in, qkW, qmW, qnW, true_and, and_true, or_self, true_or, or_true, and_self]; omega)) only [zD_124, b124_0, b124_5, b124_11, b124_31, b124_34, b124_38, qcall_l, qcall_r, qretn_l, qJ_s, qJ_n, qV0, qEx, ↓qif0, ↓zchk_pos, ↓reduceIte, qput, qWW, qmW, qkW, qnW, K_3 hK, co]
      · simp (config := { maxSteps := 2000000 }) (disch := first | omega | (simp only [K_3 hK, qb_in, qkW, qmW, qnW, true_and, and_true, or_self, true_or, or_true, and_self]; done) | (simp only [K_3 hK, qb_in, qkW, qmW, qnW, true_and, and_true, or_self, true_or, or_true, and_self]; omega)) only [zD_124, b124_0, b124_5, b124_11, b124_31, b124_34, b124_38, qcall_l, qcall_r, qretn_l, qJ_s, qJ_n, qV0, qEx, ↓qif0, ↓zchk_pos, ↓reduceIte, qput, qWW, qmW, qkW, qnW, K_3 hK, co, sl]
    · rw [qWS]
      exact key (zbump S) (zm S) (qps3 x) hK (by rw [r2]; rfl) hd
theorem q_ways (d : Nat) (S : zS) (code g : Int) (h : 12 ≤ d) (hK : qK S) (hP : qP (zm S)) (hL : qLt (zm S)) (hT : qRT S) (hC : qRC S) (hR : qRD S) : qAsk vl S (zD d 125 [vr 3, vi code, vi g] S) (zD d 232 [vr 37, vi code, vi g]) qps3 := by
  obtain ⟨e, rfl, h1⟩ := qd h
  have key : ∀ (Z : zS) (m2 : Int → Int → Int) (p : Int), qK Z → zD e 227 [vr 37, vi code, vi g, vi 1] Z = some (.inl (some (vi p)), qW Z m2) → zD e 182 [vr 37, vi p] (qW Z m2) = some (.inl (some (vi 0)), qW Z (qu m2 37 0 p)) → zD (e + 1) 232 [vr 37, vi code, vi g] Z = some (.inl (some (vl 0)), qW Z (qu m2 37 0 p)) := by
    intro Z m2 p hK r2 hd
    simp (config := { maxSteps := 2000000 }) (disch := first | omega | (simp only [K_37 hK, qb_in, qkW, qmW, qnW, true_and, and_true, or_self, true_or, or_true, and_self]; done) | (simp only [K_37 hK, qb_in, qkW, qmW, qnW, true_and, and_true, or_self, true_or, or_true, and_self]; omega)) only [zD_232, b232_0, b232_8, b232_11, b232_14, b232_16, b232_32, b232_37, b232_51, b232_73, b232_88, b232_91, b232_108, b232_109, b232_117, b232_123, qcall_l, qcall_r, qretn_l, qJ_s, qJ_n, qV0, qEx, ↓qif0, ↓zchk_pos, ↓reduceIte, qput, qWW, qmW, qkW, qnW, K_37 hK, r2, hd, Int.reduceEq]
  by_cases ho : (0 ≤ code ∧ code < zm S 37 4) ∧ (0 ≤ g ∧ g ≤ 3) ∧ qOne S
  · obtain ⟨hc, hg, h0⟩ := ho
    obtain ⟨W, dg, st, bg, mk, E, hw, hdg, hs, ht⟩ := q_prep S code g hK hP hL hT hC hR hc hg h0
    have hWl := hw.1
    have co := s_codeOf_y e S code (by omega) hK hP hC hc
    obtain ⟨m1, r1, p1, q1⟩ := s_spellLetters_y e S W dg st bg mk E g (by omega) hK hP hT hC hg h0 hdg hs
    rcases hdg with c | c
    · subst c
      rw [if_pos rfl] at r1
      have hP1 := qFq_P hC hP q1
      obtain ⟨z2, z3, zf, kf, ka, D, r3, p3, p4, p5⟩ := q_cdiv e S W st bg (qmc mk) code g m1 (by omega) hK hP hL hC hR hc hw.1 q1 p1
      obtain ⟨s0, s1, -, -, -, -, s6⟩ := p1
      obtain ⟨m3, r4, f4⟩ := s_countRows e (qW S m1) (zm S 6 code) (zm S 39 code) g 18 19 D (qPw (zm S) W 0) W.length (zm S 6 code + 2) (qTm (zm S) code) (qnth W) (by omega) z2 z3 (K_18 hK) s0 (K_19 hK) s1 (by omega) (fun j j1 j2 => qA_n s6 j j1 j2) p3 zf kf
      have q3 := qFq_fd hC hc q1 f4
      refine Or.inl ⟨(qtab W.length 1 (qsW (qTm (zm S) code) (zm S 39 code) g (qnth W) (qPw (zm S) W 0) W.length) ((W.length : Int)).toNat 0), m3, ?_, qFq_1 hC q3, fun o => ?_⟩
      · simp (config := { maxSteps := 2000000 }) (disch := first | omega | (simp only [K_3 hK, K_18 hK, P_3_14 hP, P_3_14 hP1, s0, ka, qb_in, qkW, qmW, qnW, true_and, and_true, or_self, true_or, or_true, and_self]; done) | (simp only [K_3 hK, K_18 hK, P_3_14 hP, P_3_14 hP1, s0, ka, qb_in, qkW, qmW, qnW, true_and, and_true, or_self, true_or, or_true, and_self]; omega)) only [zD_125, b125_0, b125_5, b125_11, b125_31, b125_34, b125_38, qcall_l, qcall_r, qretn_l, qJ_s, qJ_n, qV0, qEx, ↓qif0, ↓zchk_pos, ↓reduceIte, qput, qWW, qmW, qkW, qnW, K_3 hK, K_18 hK, P_3_14 hP, P_3_14 hP1, co, r1, s0, s1, r3, r4, ka]
      obtain ⟨m2, r2, z2, p2⟩ := ht e 1 S (qu m3 102 0 o) (Or.inl rfl) (by omega) (by decide) (qFq_o q3 o)
      rw [if_neg (by decide)] at r2
      have hd := r_holds e (qW S m2) 0 (by omega) hK
      rw [qb_p rfl] at hd
      have q5 := (p2 0).2
      have hC5 := qRC_q hC q5
      have e39 : (qu m2 37 0 0) 39 = zm S 39 := qFq_tb hC q5 39 (by decide) (by decide)
      have eT : qTm (qu m2 37 0 0) code = qTm (zm S) code := qTm_e (qFq_tb hC q5) code
      have hr := qRC_r hC5 hc.1 (by show code < qu m2 37 0 0 37 4; rw [qFq_37 hC q5 4 (by unfold qscf; omega)]; exact hc.2)
      simp only [qmW, e39, eT] at hr
      obtain ⟨m4, r5, f5⟩ := r_ways16 e (qW S (qu m2 37 0 0)) code (zm S 39 code) g W.length (qPw (zm S) W 0) (qTm (zm S) code) (qnth W) vu vu (by omega) hK (qFq_P hC hP q5) hr z3 (qRx_w (p2 0).1) (by omega)
      refine ⟨m4, ?_, ?_, by rw [f5.1 102 (by decide) (by decide)]; show qu m2 37 0 0 102 0 = o; rw [qu_o _ _ _ _ _ (by decide), z2, qu_s], qFq_t hC q5 (qFq_r37 (S := qW S _) f5 (by decide) (by decide))⟩
      · simp (config := { maxSteps := 2000000 }) (disch := first | omega | (simp only [K_37 hK, qb_in, qkW, qmW, qnW, true_and, and_true, or_self, true_or, or_true, and_self]; done) | (simp only [K_37 hK, qb_in, qkW, qmW, qnW, true_and, and_true, or_self, true_or, or_true, and_self]; omega)) only [zD_232, b232_0, b232_8, b232_11, b232_14, b232_32, b232_37, b232_51, b232_73, b232_88, b232_91, b232_108, b232_109, b232_117, b232_123, qcall_l, qcall_r, qretn_l, qJ_s, qJ_n, qV0, qEx, ↓qif0, ↓zchk_pos, ↓reduceIte, qput, qWW, qmW, qkW, qnW, K_37 hK, r2, hd, Int.reduceEq, qmW]
        exact r5
      · rw [f5.2 0 (by simp)]
        exact qu_s m2 37 0 0
    · rw [if_neg (by omega)] at r1
      obtain ⟨m2, r2, -, p2⟩ := ht e 1 (zbump S) m1 (Or.inr rfl) (by omega) (by decide) q1
      rw [if_pos ⟨rfl, c⟩] at r2
      have hd := r_holds e (qW (zbump S) m2) 3 (by omega) hK
      rw [qb_n (by decide)] at hd
      refine Or.inr ⟨1, 0, m1, qu m2 37 0 3, ?_, qFq_1 hC q1, ?_, qu_s _ _ _ _, by decide, (p2 3).2⟩
      · simp (config := { maxSteps := 2000000 }) (disch := first | omega | (simp only [K_3 hK, qb_in, qkW, qmW, qnW, true_and, and_true, or_self, true_or, or_true, and_self]; done) | (simp only [K_3 hK, qb_in, qkW, qmW, qnW, true_and, and_true, or_self, true_or, or_true, and_self]; omega)) only [zD_125, b125_0, b125_5, b125_11, b125_31, b125_34, b125_38, qcall_l, qcall_r, qretn_l, qJ_s, qJ_n, qV0, qEx, ↓qif0, ↓zchk_pos, ↓reduceIte, qput, qWW, qmW, qkW, qnW, K_3 hK, co, r1]
      · exact key (qW (zbump S) m1) m2 3 hK r2 hd
  · obtain ⟨x, hx, r2, hd, hx0⟩ := q_cerr e S code g (by omega) hK hP hT hC ho
    refine Or.inr ⟨x, 0, zm S, qu (zm S) 37 0 (qps3 x), ?_, rfl, ?_, qu_s _ _ _ _, hx0, qFq_r37 (A := []) (J := [0]) (qfr_j _ _ _ (by simp)) (by decide) (by decide)⟩
    · rw [qWS]
      rcases hx with ⟨rfl, co⟩ | ⟨co, sl⟩
      · simp (config := { maxSteps := 2000000 }) (disch := first | omega | (simp only [K_3 hK, qb_in, qkW, qmW, qnW, true_and, and_true, or_self, true_or, or_true, and_self]; done) | (simp only [K_3 hK, qb_in, qkW, qmW, qnW, true_and, and_true, or_self, true_or, or_true, and_self]; omega)) only [zD_125, b125_0, b125_5, b125_11, b125_31, b125_34, b125_38, qcall_l, qcall_r, qretn_l, qJ_s, qJ_n, qV0, qEx, ↓qif0, ↓zchk_pos, ↓reduceIte, qput, qWW, qmW, qkW, qnW, K_3 hK, co]
      · simp (config := { maxSteps := 2000000 }) (disch := first | omega | (simp only [K_3 hK, qb_in, qkW, qmW, qnW, true_and, and_true, or_self, true_or, or_true, and_self]; done) | (simp only [K_3 hK, qb_in, qkW, qmW, qnW, true_and, and_true, or_self, true_or, or_true, and_self]; omega)) only [zD_125, b125_0, b125_5, b125_11, b125_31, b125_34, b125_38, qcall_l, qcall_r, qretn_l, qJ_s, qJ_n, qV0, qEx, ↓qif0, ↓zchk_pos, ↓reduceIte, qput, qWW, qmW, qkW, qnW, K_3 hK, co, sl]
    · rw [qWS]
      exact key (zbump S) (zm S) (qps3 x) hK (by rw [r2]; rfl) hd
theorem q_readings (d : Nat) (S : zS) (code g : Int) (h : 12 ≤ d) (hK : qK S) (hP : qP (zm S)) (hL : qLt (zm S)) (hT : qRT S) (hC : qRC S) (hR : qRD S) : qAsk vl S (zD d 126 [vr 3, vi code, vi g] S) (zD d 233 [vr 37, vi code, vi g]) qps3 := by
  obtain ⟨e, rfl, h1⟩ := qd h
  have key : ∀ (Z : zS) (m2 : Int → Int → Int) (p : Int), qK Z → zD e 227 [vr 37, vi code, vi g, vi 1] Z = some (.inl (some (vi p)), qW Z m2) → zD e 182 [vr 37, vi p] (qW Z m2) = some (.inl (some (vi 0)), qW Z (qu m2 37 0 p)) → zD (e + 1) 233 [vr 37, vi code, vi g] Z = some (.inl (some (vl 0)), qW Z (qu m2 37 0 p)) := by
    intro Z m2 p hK r2 hd
    simp (config := { maxSteps := 2000000 }) (disch := first | omega | (simp only [K_37 hK, qb_in, qkW, qmW, qnW, true_and, and_true, or_self, true_or, or_true, and_self]; done) | (simp only [K_37 hK, qb_in, qkW, qmW, qnW, true_and, and_true, or_self, true_or, or_true, and_self]; omega)) only [zD_233, b233_0, b233_8, b233_11, b233_14, b233_16, b233_22, b233_32, b233_50, b233_66, b233_71, b233_85, b233_88, b233_92, b233_100, b233_123, b233_136, b233_142, b233_145, b233_160, b233_165, b233_166, b233_174, b233_180, qcall_l, qcall_r, qretn_l, qJ_s, qJ_n, qV0, qEx, ↓qif0, ↓zchk_pos, ↓reduceIte, qput, qWW, qmW, qkW, qnW, K_37 hK, r2, hd, Int.reduceEq]
  by_cases ho : (0 ≤ code ∧ code < zm S 37 4) ∧ (0 ≤ g ∧ g ≤ 3) ∧ qOne S
  · obtain ⟨hc, hg, h0⟩ := ho
    obtain ⟨W, dg, st, bg, mk, E, hw, hdg, hs, ht⟩ := q_prep S code g hK hP hL hT hC hR hc hg h0
    have hWl := hw.1
    have co := s_codeOf_y e S code (by omega) hK hP hC hc
    obtain ⟨m1, r1, p1, q1⟩ := s_spellLetters_y e S W dg st bg mk E g (by omega) hK hP hT hC hg h0 hdg hs
    rcases hdg with c | c
    · subst c
      rw [if_pos rfl] at r1
      have hP1 := qFq_P hC hP q1
      have hk : qWk S 20 21 22 := ⟨K_20 hK, K_21 hK, K_22 hK, by decide, by decide, by decide⟩
      obtain ⟨m5, r6, p6, f6⟩ := s_wrClear e (qW S m1) 20 21 22 [] [] (by omega) hk (P_20_0 hP1) (P_20_4 hP1)
      have q6 : qFq S m5 := qFq_w q1 hP1 f6 p6.1 p6.2.1
      have p7 : qSq m5 18 19 W st 0 bg (qmc mk) := by
        obtain ⟨s0, s1, s2, s3, s4, s5, s6⟩ := p1
        have e18 : m5 18 = m1 18 := f6 18 (by decide) (by decide) (by decide)
        exact ⟨by rw [e18]; exact s0, by rw [e18]; exact s1, by rw [e18]; exact s2, by rw [e18]; exact s3, by rw [e18]; exact s4, by rw [e18]; exact s5, qA_o s6 (f6 19 (by decide) (by decide) (by decide))⟩
      have hP5 := qFq_P hC hP q6
      obtain ⟨z2, z3, zf, kf, ka, D, r3, p3, p4, p5⟩ := q_cdiv e S W st bg (qmc mk) code g m5 (by omega) hK hP hL hC hR hc hw.1 q6 p7
      obtain ⟨s0, s1, -, -, -, -, s6⟩ := p7
      have en : ((W.length : Int)).toNat = W.length := by omega
      obtain ⟨m6, r7, p8, f7⟩ := s_contract e (qW S m5) (zm S 6 code) (zm S 39 code) g 18 19 20 21 22 D (qPw (zm S) W 0) W.length 0 0 (qTm (zm S) code) (qnth W) [] (by omega) hK (qFq_L hC hL q6) z2 z3 (K_18 hK) s0 (K_19 hK) s1 (by omega) (fun j j1 j2 => qA_n s6 j j1 j2) p3 p4 hk p6 (by decide) (by rw [en]; exact p5)
      rw [en, List.nil_append] at p8
      have q7 : qFq S m6 := qFq_w q6 hP5 f7 p8.1 p8.2.1
      have hC7 := qRC_q hC q7
      have hN := z2.2.2.2.1
      obtain ⟨c1, c2, -⟩ := qC1_n (T := qTm (zm S) code) (N := zm S 39 code) (g := g) (P := qPw (zm S) W 0) (W := W) hN.1 z3 hWl.2
      have c2 := c2 hWl.1
      have z27 : qCo (qW S m6) (zm S 6 code) (zm S 39 code) (qTm (zm S) code) ∧ m6 (zm S 6 code) 2 = zm S 6 code + 2 := by
        obtain ⟨y1, y2, y3, y4⟩ := hC7.2.2.1 code hc.1 (by show code < m6 37 4; rw [qFq_37 hC q7 4 (by unfold qscf; omega)]; exact hc.2)
        have e6 : m6 6 = zm S 6 := qFq_x hC q7 (by decide) fun j => by unfold qscf; omega
        have e39 : m6 39 = zm S 39 := qFq_tb hC q7 39 (by decide) (by decide)
        have eT : qTm m6 code = qTm (zm S) code := qTm_e (qFq_tb hC q7) code
        simp only [qmW, e6, e39, eT] at y1 y2
        exact ⟨y2, y1.2.2.2.2.2.2.1⟩
      have hlm : ((qC1 (qTm (zm S) code) (zm S 39 code) g W (qPw (zm S) W 0)).map Prod.fst).length = (qC1 (qTm (zm S) code) (zm S 39 code) g W (qPw (zm S) W 0)).length := List.length_map _
      have hP7 := qFq_P hC hP q7
      obtain ⟨m7, r8, f8⟩ := s_countReadings e (qW S m6) (zm S 6 code) (zm S 39 code) g 20 21 22 0 (qU1 (qTm (zm S) code) (zm S 39 code) g W (qPw (zm S) W 0)) (zm S 6 code + 2) (qTm (zm S) code) ((qC1 (qTm (zm S) code) (zm S 39 code) g W (qPw (zm S) W 0)).map Prod.fst) _ (by omega) hK (qFq_L hC hL q7) z27.1 z3 hk p8 (by rw [hlm]; omega) z27.2 kf
      have q8 := qFq_fd hC hc q7 f8
      refine Or.inl ⟨(qtab (((qC1 (qTm (zm S) code) (zm S 39 code) g W (qPw (zm S) W 0)).map Prod.fst).length : Int) 1 (qsR (qTm (zm S) code) (zm S 39 code) g (qnth ((qC1 (qTm (zm S) code) (zm S 39 code) g W (qPw (zm S) W 0)).map Prod.fst)) (((qC1 (qTm (zm S) code) (zm S 39 code) g W (qPw (zm S) W 0)).map Prod.fst).length : Int)) ((qC1 (qTm (zm S) code) (zm S 39 code) g W (qPw (zm S) W 0)).map Prod.fst).length 0), m7, ?_, qFq_1 hC q8, fun o => ?_⟩
      · simp (config := { maxSteps := 2000000 }) (disch := first | omega | (simp only [K_3 hK, K_18 hK, P_3_14 hP, K_20 hK, P_3_15 hP, P_3_14 hP1, P_3_15 hP1, P_3_14 hP5, P_3_15 hP5, P_3_15 hP7, s0, ka, qb_in, qkW, qmW, qnW, true_and, and_true, or_self, true_or, or_true, and_self]; done) | (simp only [K_3 hK, K_18 hK, P_3_14 hP, K_20 hK, P_3_15 hP, P_3_14 hP1, P_3_15 hP1, P_3_14 hP5, P_3_15 hP5, P_3_15 hP7, s0, ka, qb_in, qkW, qmW, qnW, true_and, and_true, or_self, true_or, or_true, and_self]; omega)) only [zD_126, b126_0, b126_5, b126_11, b126_18, b126_38, b126_41, b126_49, b126_58, qcall_l, qcall_r, qretn_l, qJ_s, qJ_n, qV0, qEx, ↓qif0, ↓zchk_pos, ↓reduceIte, qput, qWW, qmW, qkW, qnW, K_3 hK, K_18 hK, P_3_14 hP, K_20 hK, P_3_15 hP, P_3_14 hP1, P_3_15 hP1, P_3_14 hP5, P_3_15 hP5, co, r1, r6, s0, s1, r3, r7, P_3_15 hP7, r8, ka]
      obtain ⟨m2, r2, z2, p2⟩ := ht e 1 S (qu m7 102 0 o) (Or.inl rfl) (by omega) (by decide) (qFq_o q8 o)
      rw [if_neg (by decide)] at r2
      have hd := r_holds e (qW S m2) 0 (by omega) hK
      rw [qb_p rfl] at hd
      have q9 := (p2 0).2
      have hC9 := qRC_q hC q9
      have hP9 := qFq_P hC hP q9
      have e39 : (qu m2 37 0 0) 39 = zm S 39 := qFq_tb hC q9 39 (by decide) (by decide)
      have eT : qTm (qu m2 37 0 0) code = qTm (zm S) code := qTm_e (qFq_tb hC q9) code
      have hr := qRC_r hC9 hc.1 (by show code < qu m2 37 0 0 37 4; rw [qFq_37 hC q9 4 (by unfold qscf; omega)]; exact hc.2)
      simp only [qmW, e39, eT] at hr
      have hWr : ∀ i, 0 ≤ i → i < (W.length : Int) → 0 ≤ qnth W i ∧ qnth W i < 26 := by
        rcases hw.2.2.1 with q | q
        · exact q.2
        · omega
      obtain ⟨m3, r9, p9, f9⟩ := r_finds e (qW S (qu m2 37 0 0)) code (zm S 39 code) g W.length (qPw (zm S) W 0) (qTm (zm S) code) (qnth W) (by omega) hK hP9 hr z3 (qRx_w (p2 0).1) (by omega) hWr
      rw [en] at p9
      have hrow : ∀ (f i : Nat) (m : Int → Int → Int) (x4 : zV), i + f = (qC1 (qTm (zm S) code) (zm S 39 code) g W (qPw (zm S) W 0)).length → qfr [65, 66, 68] [40, 42] (qu m2 37 0 0) m → qFd m (qC1 (qTm (zm S) code) (zm S 39 code) g W (qPw (zm S) W 0)) (qU1 (qTm (zm S) code) (zm S 39 code) g W (qPw (zm S) W 0)) → (∀ j : Int, 0 ≤ j → j < i → m 68 j = qnth ((qC1 (qTm (zm S) code) (zm S 39 code) g W (qPw (zm S) W 0)).map Prod.fst) j) →
          ∃ m' z3 z4, zF_233 e 24 [vr 37, vi code, vi g, vi i, x4] [] (qW S m) = zF_233 e 50 [vr 37, vi code, vi g, z3, z4] [] (qW S m') ∧ qfr [65, 66, 68] [40, 42] (qu m2 37 0 0) m' ∧ m' 37 40 = (qC1 (qTm (zm S) code) (zm S 39 code) g W (qPw (zm S) W 0)).length ∧ (∀ j : Int, 0 ≤ j → j < (qC1 (qTm (zm S) code) (zm S 39 code) g W (qPw (zm S) W 0)).length → m' 68 j = qnth ((qC1 (qTm (zm S) code) (zm S 39 code) g W (qPw (zm S) W 0)).map Prod.fst) j) := by
        intro f
        induction f with
        | zero =>
          intro i m x4 h2 hf hF hr
          refine ⟨m, vi i, vu, ?_, hf, hF.1, fun j j1 j2 => hr j j1 (by omega)⟩
          rw [b233_24]
          simp (config := { maxSteps := 2000000 }) (disch := first | omega | (simp only [K_37 hK, qb_in, qkW, qmW, qnW, true_and, and_true, or_self, true_or, or_true, and_self]; done) | (simp only [K_37 hK, qb_in, qkW, qmW, qnW, true_and, and_true, or_self, true_or, or_true, and_self]; omega)) only [b233_0, b233_8, b233_11, b233_14, b233_16, b233_22, b233_32, b233_66, b233_71, b233_85, b233_88, b233_92, b233_100, b233_123, b233_136, b233_142, b233_145, b233_160, b233_165, b233_166, b233_174, b233_180, qcall_l, qcall_r, qretn_l, qJ_s, qJ_n, qV0, qEx, ↓qif0, ↓zchk_pos, ↓reduceIte, qput, qWW, qmW, qkW, qnW, K_37 hK, hF.1, if_neg (show ¬ (i : Int) < (qC1 (qTm (zm S) code) (zm S 39 code) g W (qPw (zm S) W 0)).length by omega)]
        | succ f ih =>
          intro i m x4 h2 hf hF hr
          have hPm : qP m := qP_fr hP9 hf (by decide)
          have g1 := qA_n hF.2.2.1 i (by omega) (by rw [hlm]; omega)
          obtain ⟨m', x3, y4, r, p⟩ := ih (i + 1) (qu m 68 i (qnth ((qC1 (qTm (zm S) code) (zm S 39 code) g W (qPw (zm S) W 0)).map Prod.fst) i)) vu (by omega) (qfr_t' hf (qfr_a (A := [65, 66, 68]) (J := [40, 42]) _ _ _ _ (by decide) (by decide)) (fun _ h => h) fun _ h => h) ⟨by rw [qu_o _ _ _ _ _ (by decide)]; exact hF.1, by rw [qu_o _ _ _ _ _ (by decide)]; exact hF.2.1, qA_u hF.2.2.1 _ _ _ (Or.inl (by decide)), qA_u hF.2.2.2 _ _ _ (Or.inl (by decide))⟩ (fun j j1 j2 => by
            by_cases q : j = i
            · rw [q, qu_s]
            · rw [qu_i _ _ _ _ _ q]
              exact hr j j1 (by omega))
          refine ⟨m', x3, y4, ?_, p⟩
          rw [b233_24]
          simp (config := { maxSteps := 2000000 }) (disch := first | omega | (simp only [K_37 hK, K_65 hK, P_37_39 hP, K_68 hK, P_37_47 hP, P_37_39 hPm, P_37_47 hPm, qb_in, qkW, qmW, qnW, true_and, and_true, or_self, true_or, or_true, and_self]; done) | (simp only [K_37 hK, K_65 hK, P_37_39 hP, K_68 hK, P_37_47 hP, P_37_39 hPm, P_37_47 hPm, qb_in, qkW, qmW, qnW, true_and, and_true, or_self, true_or, or_true, and_self]; omega)) only [b233_0, b233_8, b233_11, b233_14, b233_16, b233_22, b233_32, b233_66, b233_71, b233_85, b233_88, b233_92, b233_100, b233_123, b233_136, b233_142, b233_145, b233_160, b233_165, b233_166, b233_174, b233_180, qcall_l, qcall_r, qretn_l, qJ_s, qJ_n, qV0, qEx, ↓qif0, ↓zchk_pos, ↓reduceIte, qput, qWW, qmW, qkW, qnW, K_37 hK, K_65 hK, P_37_39 hP, K_68 hK, P_37_47 hP, P_37_39 hPm, P_37_47 hPm, hF.1, g1, if_pos (show (i : Int) < (qC1 (qTm (zm S) code) (zm S 39 code) g W (qPw (zm S) W 0)).length by omega), q32]
          exact r
      obtain ⟨m4, x3, x4, r10, f10, c40, c68⟩ := hrow (qC1 (qTm (zm S) code) (zm S 39 code) g W (qPw (zm S) W 0)).length 0 m3 vu (by omega) (qfr_m f9 (by decide) (by decide)) p9 (fun j j1 j2 => by omega)
      have q10 : qFq S m4 := qFq_t hC q9 (qFq_r37 (S := qW S _) f10 (by decide) (by decide))
      have hC10 := qRC_q hC q10
      have e39' : m4 39 = zm S 39 := qFq_tb hC q10 39 (by decide) (by decide)
      have eT' : qTm m4 code = qTm (zm S) code := qTm_e (qFq_tb hC q10) code
      have hr10 := qRC_r hC10 hc.1 (by show code < m4 37 4; rw [qFq_37 hC q10 4 (by unfold qscf; omega)]; exact hc.2)
      simp only [qmW, e39', eT'] at hr10
      obtain ⟨m8, r11, f11⟩ := r_readings50 e (qW S m4) code (zm S 39 code) g (qTm (zm S) code) ((qC1 (qTm (zm S) code) (zm S 39 code) g W (qPw (zm S) W 0)).map Prod.fst) x3 x4 (by omega) hK (qFq_P hC hP q10) hr10 z3 (by rw [hlm]; exact c68) (by rw [hlm]; exact c40) (by rw [hlm]; omega)
      refine ⟨m8, ?_, ?_, by rw [f11.1 102 (by decide) (by decide)]; show m4 102 0 = o; rw [f10.1 102 (by decide) (by decide), qu_o _ _ _ _ _ (by decide), z2, qu_s], qFq_t hC q10 (qFq_r37 (S := qW S _) f11 (by decide) (by decide))⟩
      · simp (config := { maxSteps := 2000000 }) (disch := first | omega | (simp only [K_37 hK, qb_in, qkW, qmW, qnW, true_and, and_true, or_self, true_or, or_true, and_self]; done) | (simp only [K_37 hK, qb_in, qkW, qmW, qnW, true_and, and_true, or_self, true_or, or_true, and_self]; omega)) only [zD_233, b233_0, b233_8, b233_11, b233_14, b233_16, b233_22, b233_32, b233_66, b233_71, b233_85, b233_88, b233_92, b233_100, b233_123, b233_136, b233_142, b233_145, b233_160, b233_165, b233_166, b233_174, b233_180, qcall_l, qcall_r, qretn_l, qJ_s, qJ_n, qV0, qEx, ↓qif0, ↓zchk_pos, ↓reduceIte, qput, qWW, qmW, qkW, qnW, K_37 hK, r2, hd, r9, Int.reduceEq, qmW]
        exact r10.trans r11
      · rw [f11.2 0 (by simp)]
        show m4 37 0 = 0
        rw [f10.2 0 (by decide)]
        exact qu_s m2 37 0 0
    · rw [if_neg (by omega)] at r1
      obtain ⟨m2, r2, -, p2⟩ := ht e 1 (zbump S) m1 (Or.inr rfl) (by omega) (by decide) q1
      rw [if_pos ⟨rfl, c⟩] at r2
      have hd := r_holds e (qW (zbump S) m2) 3 (by omega) hK
      rw [qb_n (by decide)] at hd
      refine Or.inr ⟨1, 0, m1, qu m2 37 0 3, ?_, qFq_1 hC q1, ?_, qu_s _ _ _ _, by decide, (p2 3).2⟩
      · simp (config := { maxSteps := 2000000 }) (disch := first | omega | (simp only [K_3 hK, qb_in, qkW, qmW, qnW, true_and, and_true, or_self, true_or, or_true, and_self]; done) | (simp only [K_3 hK, qb_in, qkW, qmW, qnW, true_and, and_true, or_self, true_or, or_true, and_self]; omega)) only [zD_126, b126_0, b126_5, b126_11, b126_18, b126_38, b126_41, b126_49, b126_58, qcall_l, qcall_r, qretn_l, qJ_s, qJ_n, qV0, qEx, ↓qif0, ↓zchk_pos, ↓reduceIte, qput, qWW, qmW, qkW, qnW, K_3 hK, co, r1]
      · exact key (qW (zbump S) m1) m2 3 hK r2 hd
  · obtain ⟨x, hx, r2, hd, hx0⟩ := q_cerr e S code g (by omega) hK hP hT hC ho
    refine Or.inr ⟨x, 0, zm S, qu (zm S) 37 0 (qps3 x), ?_, rfl, ?_, qu_s _ _ _ _, hx0, qFq_r37 (A := []) (J := [0]) (qfr_j _ _ _ (by simp)) (by decide) (by decide)⟩
    · rw [qWS]
      rcases hx with ⟨rfl, co⟩ | ⟨co, sl⟩
      · simp (config := { maxSteps := 2000000 }) (disch := first | omega | (simp only [K_3 hK, qb_in, qkW, qmW, qnW, true_and, and_true, or_self, true_or, or_true, and_self]; done) | (simp only [K_3 hK, qb_in, qkW, qmW, qnW, true_and, and_true, or_self, true_or, or_true, and_self]; omega)) only [zD_126, b126_0, b126_5, b126_11, b126_18, b126_38, b126_41, b126_49, b126_58, qcall_l, qcall_r, qretn_l, qJ_s, qJ_n, qV0, qEx, ↓qif0, ↓zchk_pos, ↓reduceIte, qput, qWW, qmW, qkW, qnW, K_3 hK, co]
      · simp (config := { maxSteps := 2000000 }) (disch := first | omega | (simp only [K_3 hK, qb_in, qkW, qmW, qnW, true_and, and_true, or_self, true_or, or_true, and_self]; done) | (simp only [K_3 hK, qb_in, qkW, qmW, qnW, true_and, and_true, or_self, true_or, or_true, and_self]; omega)) only [zD_126, b126_0, b126_5, b126_11, b126_18, b126_38, b126_41, b126_49, b126_58, qcall_l, qcall_r, qretn_l, qJ_s, qJ_n, qV0, qEx, ↓qif0, ↓zchk_pos, ↓reduceIte, qput, qWW, qmW, qkW, qnW, K_3 hK, co, sl]
    · rw [qWS]
      exact key (zbump S) (zm S) (qps3 x) hK (by rw [r2]; rfl) hd
