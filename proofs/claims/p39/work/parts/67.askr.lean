/-! Questions for one word: both answers. -/
theorem r_isCode (d : Nat) (S : zS) (c : Int) (h : 2 ≤ d) (hK : qK S) (hC : qRC S) : zD d 209 [vr 37, vi c] S = some (.inl (some (vi (qb (0 ≤ c ∧ c ≤ zm S 37 4 - 1)))), S) := by
  obtain ⟨e, rfl, h1⟩ := qd h
  have c2 := hC.2.1
  have hb := qb_r (0 ≤ c ∧ c ≤ zm S 37 4 - 1)
  simp (config := { maxSteps := 2000000 }) (disch := first | omega | (simp only [K_37 hK, qb_in, qkW, qmW, qnW, true_and, and_true, or_self, true_or, or_true, and_self]; done) | (simp only [K_37 hK, qb_in, qkW, qmW, qnW, true_and, and_true, or_self, true_or, or_true, and_self]; omega)) only [zD_209, b209_0, b209_11, qcall_l, qcall_r, qretn_l, qJ_s, qJ_n, qV0, qEx, ↓qif0, ↓zchk_pos, ↓reduceIte, qput, qWW, qmW, qkW, qnW, K_37 hK, r_in, q32]
theorem r_holds (d : Nat) (S : zS) (p : Int) (h : 1 ≤ d) (hK : qK S) : zD d 182 [vr 37, vi p] S = some (.inl (some (vi (qb (p = 0)))), qW S (qu (zm S) 37 0 p)) := by
  obtain ⟨e, rfl, -⟩ := qd h
  by_cases c : p = 0
  · rw [qb_p c]
    simp (config := { maxSteps := 2000000 }) (disch := first | omega | (simp only [K_37 hK, qb_in, qkW, qmW, qnW, true_and, and_true, or_self, true_or, or_true, and_self]; done) | (simp only [K_37 hK, qb_in, qkW, qmW, qnW, true_and, and_true, or_self, true_or, or_true, and_self]; omega)) only [zD_182, b182_0, b182_9, b182_13, b182_14, qcall_l, qcall_r, qretn_l, qJ_s, qJ_n, qV0, qEx, ↓qif0, ↓zchk_pos, ↓reduceIte, qput, qWW, qmW, qkW, qnW, K_37 hK, if_pos c, Int.reduceLE, true_and, and_self]
  · rw [qb_n c]
    simp (config := { maxSteps := 2000000 }) (disch := first | omega | (simp only [K_37 hK, qb_in, qkW, qmW, qnW, true_and, and_true, or_self, true_or, or_true, and_self]; done) | (simp only [K_37 hK, qb_in, qkW, qmW, qnW, true_and, and_true, or_self, true_or, or_true, and_self]; omega)) only [zD_182, b182_0, b182_9, b182_13, b182_14, qcall_l, qcall_r, qretn_l, qJ_s, qJ_n, qV0, qEx, ↓qif0, ↓zchk_pos, ↓reduceIte, qput, qWW, qmW, qkW, qnW, K_37 hK, if_neg c, Int.reduceLE, true_and, and_self]
/-- where a question for one word fails -/
theorem r_errorOfWord_n (d : Nat) (S : zS) (c g q : Int) (h : 7 ≤ d) (hK : qK S) (hP : qP (zm S)) (hT : qRT S) (hC : qRC S) (hq : 0 ≤ q ∧ q ≤ 1) (ho : ¬ ((0 ≤ c ∧ c < zm S 37 4) ∧ (0 ≤ g ∧ g ≤ 3) ∧ qOne S)) :
    zD d 227 [vr 37, vi c, vi g, vi q] S = some (.inl (some (vi (if ¬ (0 ≤ c ∧ c < zm S 37 4) then 1 else if ¬ (0 ≤ g ∧ g ≤ 3) then 2 else 3))), S) := by
  obtain ⟨e, rfl, h1⟩ := qd h
  have ic := r_isCode e S c (by omega) hK hC
  have ig := r_isGrade e S g (by omega)
  have wt := r_wordsOfTape e S (by omega) hK hP hT
  by_cases c1 : 0 ≤ c ∧ c < zm S 37 4
  · rw [qb_p (show 0 ≤ c ∧ c ≤ zm S 37 4 - 1 by omega)] at ic
    rw [if_neg fun z => z c1]
    by_cases c2 : 0 ≤ g ∧ g ≤ 3
    · rw [qb_p c2] at ig
      rw [if_neg fun z => z c2]
      have c3 : ¬ (if qtf (zm S 38) (zm S 37 2) = -1 then qcw (zm S 38) (zm S 37 2).toNat else 0) = 1 := fun z => by
        by_cases y : qtf (zm S 38) (zm S 37 2) = -1
        · rw [if_pos y] at z
          exact ho ⟨c1, c2, y, z⟩
        · rw [if_neg y] at z
          exact absurd z (by decide)
      simp (config := { maxSteps := 2000000 }) (disch := first | omega | (simp only [K_37 hK, qb_in, qkW, qmW, qnW, true_and, and_true, or_self, true_or, or_true, and_self]; done) | (simp only [K_37 hK, qb_in, qkW, qmW, qnW, true_and, and_true, or_self, true_or, or_true, and_self]; omega)) only [zD_227, b227_0, b227_5, b227_8, b227_12, b227_15, b227_20, b227_23, b227_27, b227_28, b227_29, b227_33, b227_37, b227_39, b227_44, b227_50, b227_57, b227_61, b227_62, qcall_l, qcall_r, qretn_l, qJ_s, qJ_n, qV0, qEx, ↓qif0, ↓zchk_pos, ↓reduceIte, qput, qWW, qmW, qkW, qnW, K_37 hK, ic, ig, wt, if_neg c3, Int.reduceEq]
    · rw [qb_n c2] at ig
      rw [if_pos c2]
      simp (config := { maxSteps := 2000000 }) (disch := first | omega | (simp only [K_37 hK, qb_in, qkW, qmW, qnW, true_and, and_true, or_self, true_or, or_true, and_self]; done) | (simp only [K_37 hK, qb_in, qkW, qmW, qnW, true_and, and_true, or_self, true_or, or_true, and_self]; omega)) only [zD_227, b227_0, b227_5, b227_8, b227_12, b227_15, b227_20, b227_23, b227_27, b227_28, b227_29, b227_33, b227_37, b227_39, b227_44, b227_50, b227_57, b227_61, b227_62, qcall_l, qcall_r, qretn_l, qJ_s, qJ_n, qV0, qEx, ↓qif0, ↓zchk_pos, ↓reduceIte, qput, qWW, qmW, qkW, qnW, K_37 hK, ic, ig, Int.reduceEq]
  · rw [qb_n (show ¬ (0 ≤ c ∧ c ≤ zm S 37 4 - 1) by omega)] at ic
    rw [if_pos c1]
    simp (config := { maxSteps := 2000000 }) (disch := first | omega | (simp only [K_37 hK, qb_in, qkW, qmW, qnW, true_and, and_true, or_self, true_or, or_true, and_self]; done) | (simp only [K_37 hK, qb_in, qkW, qmW, qnW, true_and, and_true, or_self, true_or, or_true, and_self]; omega)) only [zD_227, b227_0, b227_5, b227_8, b227_12, b227_15, b227_20, b227_23, b227_27, b227_28, b227_29, b227_33, b227_37, b227_39, b227_44, b227_50, b227_57, b227_61, b227_62, qcall_l, qcall_r, qretn_l, qJ_s, qJ_n, qV0, qEx, ↓qif0, ↓zchk_pos, ↓reduceIte, qput, qWW, qmW, qkW, qnW, K_37 hK, ic, Int.reduceEq]
theorem r_errorOfWord_y (d : Nat) (S : zS) (c g q : Int) (W : List Int) (dg st bg mk E : Int) (h : 7 ≤ d) (hK : qK S) (hP : qP (zm S)) (hT : qRT S) (hC : qRC S) (hR : qRD S) (hq : 0 ≤ q ∧ q ≤ 1) (c1 : 0 ≤ c ∧ c < zm S 37 4) (c2 : 0 ≤ g ∧ g ≤ 3) (ho : qOne S) (hdg : dg = 0 ∨ dg = 1)
    (hs : ∀ (d : Nat) (S' : zS), 5 ≤ d → qK S' → qP (zm S') → zm S' 37 2 = zm S 37 2 → zm S' 38 = zm S 38 → 0 ≤ zm S' 37 12 ∧ zm S' 37 12 ≤ 12 → ∃ m', zD d 206 [vr 37, vi 0] S' = some (.inl (some (vi E)), qW S' m') ∧ qRx m' W (qPw (zm S') W dg) dg st bg mk ∧ qfr [64] [32, 33, 34, 36, 37, 38] (zm S') m') :
    ∃ m', zD d 227 [vr 37, vi c, vi g, vi q] S = some (.inl (some (vi (if q = 1 ∧ dg = 1 then 3 else 0))), qW S m') ∧ qRx m' W (qPw (zm S) W dg) dg st bg mk ∧ qfr [64] [32, 33, 34, 36, 37, 38] (zm S) m' := by
  obtain ⟨e, rfl, h1⟩ := qd h
  have ic := r_isCode e S c (by omega) hK hC
  have ig := r_isGrade e S g (by omega)
  have wt := r_wordsOfTape e S (by omega) hK hP hT
  rw [qb_p (show 0 ≤ c ∧ c ≤ zm S 37 4 - 1 by omega)] at ic
  rw [qb_p c2] at ig
  rw [if_pos ho.1, ho.2] at wt
  obtain ⟨m', r, p, f⟩ := hs e S (by omega) hK hP rfl rfl hR.2.1
  refine ⟨m', ?_, p, f⟩
  have p4 := p.2.2.2.1
  by_cases q1 : q = 1
  · rcases hdg with d0 | d1
    · rw [if_neg (show ¬ (q = 1 ∧ dg = 1) by omega)]
      simp (config := { maxSteps := 2000000 }) (disch := first | omega | (simp only [K_37 hK, qb_in, qkW, qmW, qnW, true_and, and_true, or_self, true_or, or_true, and_self]; done) | (simp only [K_37 hK, qb_in, qkW, qmW, qnW, true_and, and_true, or_self, true_or, or_true, and_self]; omega)) only [zD_227, b227_0, b227_5, b227_8, b227_12, b227_15, b227_20, b227_23, b227_27, b227_28, b227_29, b227_33, b227_37, b227_39, b227_44, b227_50, b227_57, b227_61, b227_62, qcall_l, qcall_r, qretn_l, qJ_s, qJ_n, qV0, qEx, ↓qif0, ↓zchk_pos, ↓reduceIte, qput, qWW, qmW, qkW, qnW, K_37 hK, ic, ig, wt, r, p4, if_neg (show ¬ q = 0 by omega), if_pos d0, Int.reduceEq]
    · rw [if_pos (show q = 1 ∧ dg = 1 by omega)]
      simp (config := { maxSteps := 2000000 }) (disch := first | omega | (simp only [K_37 hK, qb_in, qkW, qmW, qnW, true_and, and_true, or_self, true_or, or_true, and_self]; done) | (simp only [K_37 hK, qb_in, qkW, qmW, qnW, true_and, and_true, or_self, true_or, or_true, and_self]; omega)) only [zD_227, b227_0, b227_5, b227_8, b227_12, b227_15, b227_20, b227_23, b227_27, b227_28, b227_29, b227_33, b227_37, b227_39, b227_44, b227_50, b227_57, b227_61, b227_62, qcall_l, qcall_r, qretn_l, qJ_s, qJ_n, qV0, qEx, ↓qif0, ↓zchk_pos, ↓reduceIte, qput, qWW, qmW, qkW, qnW, K_37 hK, ic, ig, wt, r, p4, if_neg (show ¬ q = 0 by omega), if_neg (show ¬ dg = 0 by omega), Int.reduceEq]
  · rw [if_neg (show ¬ (q = 1 ∧ dg = 1) by omega)]
    simp (config := { maxSteps := 2000000 }) (disch := first | omega | (simp only [K_37 hK, qb_in, qkW, qmW, qnW, true_and, and_true, or_self, true_or, or_true, and_self]; done) | (simp only [K_37 hK, qb_in, qkW, qmW, qnW, true_and, and_true, or_self, true_or, or_true, and_self]; omega)) only [zD_227, b227_0, b227_5, b227_8, b227_12, b227_15, b227_20, b227_23, b227_27, b227_28, b227_29, b227_33, b227_37, b227_39, b227_44, b227_50, b227_57, b227_61, b227_62, qcall_l, qcall_r, qretn_l, qJ_s, qJ_n, qV0, qEx, ↓qif0, ↓zchk_pos, ↓reduceIte, qput, qWW, qmW, qkW, qnW, K_37 hK, ic, ig, wt, r, if_pos (show q = 0 by omega), Int.reduceEq]
/-- a question: the class answers or throws, the reference says the same -/
def qAsk (g : Int → zV) (S : zS) (R : zR) (F : zS → zR) (ps : Nat → Int) : Prop :=
  (∃ v m1, R = some (.inl (some (g v)), qW S m1) ∧ m1 1 = zm S 1 ∧ ∀ o : Int, ∃ m2, F (qW S (qu m1 102 0 o)) = some (.inl (some (g v)), qW S m2) ∧ m2 37 0 = 0 ∧ m2 102 0 = o ∧ qFq S m2) ∨
  ∃ x v m1 m2, R = some (.inr x, zbump (qW S m1)) ∧ m1 1 = zm S 1 ∧ F (zbump (qW S m1)) = some (.inl (some (g v)), zbump (qW S m2)) ∧ m2 37 0 = ps x ∧ ps x ≠ 0 ∧ qFq S m2
/-- the same of a question that throws never -/
def qAsk0 (S : zS) (R : zR) (F : zS → zR) : Prop :=
  ∃ v m1 m2, R = some (.inl (some (vi v)), qW S m1) ∧ m1 1 = zm S 1 ∧ F (qW S m1) = some (.inl (some (vi v)), qW S m2) ∧ m2 37 0 = 0 ∧ qFq S m2
def qps3 (x : Nat) : Int := if x = 2 then 1 else if x = 0 then 2 else if x = 1 then 3 else 0
theorem qzb (S : zS) (m : Int → Int → Int) : zbump (qW S m) = qW (zbump S) m := rfl
theorem qFq_r37 {S : zS} {m' : Int → Int → Int} {A J : List Int} (f : qfr A J (zm S) m') (hA : (A.all fun x => decide (64 ≤ x ∧ x ≤ 70)) = true) (hJ : (J.all fun j => decide (j = 0 ∨ (32 ≤ j ∧ j ≤ 34) ∨ (36 ≤ j ∧ j ≤ 38) ∨ j = 40 ∨ j = 42 ∨ j = 43 ∨ j = 45 ∨ j = 46)) = true) : qFq S m' := fun x j q => by
  by_cases c : x = 37
  · subst c
    refine f.2 j fun z => q (Or.inl ?_)
    have := of_decide_eq_true (List.all_eq_true.mp hJ j z)
    unfold qscf
    omega
  · rw [f.1 x c fun z => q (Or.inl (by
      have := of_decide_eq_true (List.all_eq_true.mp hA x z)
      unfold qscf
      omega))]
theorem qRx_w {m : Int → Int → Int} {W : List Int} {P st bg mk : Int} (h : qRx m W P 0 st bg mk) : qRw m (qnth W) W.length P := ⟨h.1, h.2.1, fun j j1 j2 => by
  have := h.2.2.2.2.2.2 j j1 j2
  rw [if_neg (by decide)] at this
  exact this⟩
theorem qps3_n {x : Nat} {a b : Prop} [Decidable a] [Decidable b] (h : qps3 x = (if a then 1 else if b then 2 else 3)) : ¬ qps3 x = 0 := by
  rw [h]
  split
  · decide
  · split <;> decide
theorem s_writeTape_n (d : Nat) (S : zS) (code g : Int) (h : 6 ≤ d) (hK : qK S) (hP : qP (zm S)) (hT : qRT S) (hC : qRC S) (ho : ¬ ((0 ≤ code ∧ code < zm S 37 4) ∧ (0 ≤ g ∧ g ≤ 3) ∧ qOne S)) :
    ∃ x, zD d 161 [vr 3, vi code, vi g] S = some (.inr x, zbump S) ∧ qps3 x = (if ¬ (0 ≤ code ∧ code < zm S 37 4) then 1 else if ¬ (0 ≤ g ∧ g ≤ 3) then 2 else 3) := by
  obtain ⟨e, rfl, h1⟩ := qd h
  by_cases c1 : 0 ≤ code ∧ code < zm S 37 4
  · have co := s_codeOf_y e S code (by omega) hK hP hC c1
    rw [if_neg fun z => z c1]
    by_cases c2 : 0 ≤ g ∧ g ≤ 3
    · have cg := s_checkGrade_y e S g (by omega) c2
      have so := s_spellOne_n e S (by omega) hK hP hT fun q => ho ⟨c1, c2, q⟩
      rw [if_neg fun z => z c2]
      refine ⟨1, ?_, rfl⟩
      simp (config := { maxSteps := 2000000 }) (disch := first | omega | (simp only [K_3 hK, qb_in, qkW, qmW, qnW, true_and, and_true, or_self, true_or, or_true, and_self]; done) | (simp only [K_3 hK, qb_in, qkW, qmW, qnW, true_and, and_true, or_self, true_or, or_true, and_self]; omega)) only [zD_161, b161_0, b161_5, b161_10, b161_14, b161_27, b161_35, qcall_l, qcall_r, qretn_l, qJ_s, qJ_n, qV0, qEx, ↓qif0, ↓zchk_pos, ↓reduceIte, qput, qWW, qmW, qkW, qnW, K_3 hK, co, cg, so]
    · have cg := s_checkGrade_n e S g (by omega) c2
      rw [if_pos c2]
      refine ⟨0, ?_, rfl⟩
      simp (config := { maxSteps := 2000000 }) (disch := first | omega | (simp only [K_3 hK, qb_in, qkW, qmW, qnW, true_and, and_true, or_self, true_or, or_true, and_self]; done) | (simp only [K_3 hK, qb_in, qkW, qmW, qnW, true_and, and_true, or_self, true_or, or_true, and_self]; omega)) only [zD_161, b161_0, b161_5, b161_10, b161_14, b161_27, b161_35, qcall_l, qcall_r, qretn_l, qJ_s, qJ_n, qV0, qEx, ↓qif0, ↓zchk_pos, ↓reduceIte, qput, qWW, qmW, qkW, qnW, K_3 hK, co, cg]
  · have co := s_codeOf_n e S code (by omega) hK hC c1
    rw [if_pos c1]
    refine ⟨2, ?_, rfl⟩
    simp (config := { maxSteps := 2000000 }) (disch := first | omega | (simp only [K_3 hK, qb_in, qkW, qmW, qnW, true_and, and_true, or_self, true_or, or_true, and_self]; done) | (simp only [K_3 hK, qb_in, qkW, qmW, qnW, true_and, and_true, or_self, true_or, or_true, and_self]; omega)) only [zD_161, b161_0, b161_5, b161_10, b161_14, b161_27, b161_35, qcall_l, qcall_r, qretn_l, qJ_s, qJ_n, qV0, qEx, ↓qif0, ↓zchk_pos, ↓reduceIte, qput, qWW, qmW, qkW, qnW, K_3 hK, co]
theorem qRx_writes {S : zS} {m1 m2 : Int → Int → Int} (hC : qRC S) (q1 : qFq S m1) (f : qfr [64] [32, 33, 34, 36, 37, 38] m1 m2) : qFq S m2 := qFq_t hC q1 (qFq_r37 (S := qW S m1) f (by decide) (by decide))
theorem q_write (d : Nat) (S : zS) (W : List Int) (dg st bg mk code g : Int) (h : 7 ≤ d) (hK : qK S) (hP : qP (zm S)) (hC : qRC S) (hc : 0 ≤ code ∧ code < zm S 37 4) (m : Int → Int → Int) (q : qFq S m) (hx : qRx m W (qPw (zm S) W dg) dg st bg mk) (hw : qWk2 W dg st bg mk) :
    ∃ m', zD d 225 [vr 37, vi code, vi g] (qW S m) = some (.inl none, qW S m') ∧ qKc m' (qwL (qTm (zm S) code) (zm S 39 code) g W (qPw (zm S) W dg) dg st bg (qmc mk)) ∧ m' 37 46 = (qwS (qTm (zm S) code) (zm S 39 code) g W (qPw (zm S) W dg) dg st bg).length ∧ qFd m' (qwC (qTm (zm S) code) (zm S 39 code) g W (qPw (zm S) W dg) dg) (qwU (qTm (zm S) code) (zm S 39 code) g W (qPw (zm S) W dg) dg) ∧ m' 37 43 = qwM (qTm (zm S) code) (zm S 39 code) g W (qPw (zm S) W dg) dg ∧ qfr [65, 66, 67, 68, 69] [40, 42, 43, 45, 46] m m' ∧ qFq S m' := by
  have hC1 := qRC_q hC q
  have hr := qRC_r hC1 hc.1 (by show code < m 37 4; rw [qFq_37 hC q 4 (by unfold qscf; omega)]; exact hc.2)
  have e39 : m 39 = zm S 39 := qFq_tb hC q 39 (by decide) (by decide)
  have eT : qTm m code = qTm (zm S) code := qTm_e (qFq_tb hC q) code
  simp only [qmW, e39, eT] at hr
  obtain ⟨w1, w2, w3, w4, w5, w6⟩ := hw
  obtain ⟨m', r, p1, p2, p3, p4, f⟩ := r_writes d (qW S m) code (zm S 39 code) g (qPw (zm S) W dg) dg st bg mk (qTm (zm S) code) W h hK (qFq_P hC hP q) hr (hC.2.2.1 code hc.1 hc.2).2.2.1 hx w1 w2 (by
    rcases w3 with q | ⟨q1, q2, q3, q4⟩
    · exact Or.inl q
    · exact Or.inr ⟨q1, q2, by rw [q1, qPw_1], q4⟩) w4 w5
  exact ⟨m', r, p1, p2, p3, p4, f, qFq_t hC q (qFq_r37 (S := qW S m) f (by decide) (by decide))⟩
/-- what both have at hand when a question for one word fails not -/
theorem q_prep (S : zS) (code g : Int) (hK : qK S) (hP : qP (zm S)) (hL : qLt (zm S)) (hT : qRT S) (hC : qRC S) (hR : qRD S) (hc : 0 ≤ code ∧ code < zm S 37 4) (hg : 0 ≤ g ∧ g ≤ 3) (h0 : qOne S) :
    ∃ (W : List Int) (dg st bg mk E : Int), qWk2 W dg st bg mk ∧ (dg = 0 ∨ dg = 1) ∧
      (∀ (d : Nat) (S' : zS) (a b : Int), 4 ≤ d → qK S' → zm S' 4 0 = 5 → zm S' 4 1 = zm S 37 2 → (∀ i, i < zm S 37 2 → zm S' 5 i = zm S 38 i) → qSk S' a b → zm S' a 0 = b → ∃ m', zD d 97 [vr 4, vi 0, vr a] S' = some (.inl (some (vi E)), qW S' m') ∧ qSq m' a b W st dg bg (qmc mk) ∧ qfs a b (zm S') m') ∧
      ∀ (e : Nat) (q : Int) (Z : zS) (m1 : Int → Int → Int), (Z = S ∨ Z = zbump S) → 7 ≤ e → 0 ≤ q ∧ q ≤ 1 → qFq S m1 → ∃ m2, zD e 227 [vr 37, vi code, vi g, vi q] (qW Z m1) = some (.inl (some (vi (if q = 1 ∧ dg = 1 then 3 else 0))), qW Z m2) ∧ m2 102 = m1 102 ∧ (∀ v, qRx (qu m2 37 0 v) W (qPw (zm S) W dg) dg st bg mk ∧ qFq S (qu m2 37 0 v)) := by
  obtain ⟨W, dg, st, bg, mk, E, hw, -, -, hs, ht⟩ := q_word (zm S 38) (zm S 37 2) 0 hT.2.1 (Int.le_refl 0) hT.2.1.1 hT.2.2.2 (by rw [Int.sub_zero]; exact h0.1)
  have hdg : dg = 0 ∨ dg = 1 := by
    rcases hw.2.2.1 with q | q
    · exact Or.inl q.1
    · exact Or.inr q.1
  refine ⟨W, dg, st, bg, mk, E, hw, hdg, hs, fun e q Z m1 hZ he hq q1 => ?_⟩
  have hT1 := qRT_q hC hT q1
  have hC1 := qRC_q hC q1
  have e2 : m1 37 2 = zm S 37 2 := qFq_37 hC q1 2 (by unfold qscf; omega)
  have e38 : m1 38 = zm S 38 := qFq_x hC q1 (by decide) fun j => by unfold qscf; omega
  have e4 : m1 37 4 = zm S 37 4 := qFq_37 hC q1 4 (by unfold qscf; omega)
  have eP : qPw m1 W dg = qPw (zm S) W dg := qPw_q hC q1 W dg
  have h2 : ∃ m2, zD e 227 [vr 37, vi code, vi g, vi q] (qW Z m1) = some (.inl (some (vi (if q = 1 ∧ dg = 1 then 3 else 0))), qW Z m2) ∧ qRx m2 W (qPw m1 W dg) dg st bg mk ∧ qfr [64] [32, 33, 34, 36, 37, 38] m1 m2 := by
    rcases hZ with rfl | rfl
    · exact r_errorOfWord_y e (qW Z m1) code g q W dg st bg mk E he hK (qFq_P hC hP q1) hT1 hC1 (qRD_q hC hR q1) hq (by rw [qmW, e4]; exact hc) hg (by unfold qOne; rw [qmW, e2, e38]; exact h0) hdg (fun d S' h1 h2 h3 h4 h5 => ht d S' h1 h2 h3 (by rw [h4]; exact e2) (by rw [h5]; exact e38))
    · exact r_errorOfWord_y e (qW (zbump S) m1) code g q W dg st bg mk E he hK (qFq_P hC hP q1) hT1 hC1 (qRD_q hC hR q1) hq (by rw [qmW, e4]; exact hc) hg (by unfold qOne; rw [qmW, e2, e38]; exact h0) hdg (fun d S' h1 h2 h3 h4 h5 => ht d S' h1 h2 h3 (by rw [h4]; exact e2) (by rw [h5]; exact e38))
  obtain ⟨m2, r2, p2, f2⟩ := h2
  rw [eP] at p2
  have q2 := qRx_writes hC q1 f2
  exact ⟨m2, r2, f2.1 102 (by decide) (by decide), fun v => ⟨qRx_f p2 (qfr_j (A := []) (J := [0]) m2 0 v (by simp)) (by decide) (by decide), qFq_t hC q2 (qFq_r37 (S := qW S m2) (A := []) (J := [0]) (qfr_j _ _ _ (by simp)) (by decide) (by decide))⟩⟩
theorem qwL_l {T : Int → Int → Int} {N g P dg st bg mk : Int} {W : List Int} (hN : 0 ≤ N) (hT : qTok T N) (hW : W.length ≤ 10) (hb : bg ≤ 2) : (qwL T N g W P dg st bg mk).length ≤ 16 := by
  have hC10 : (qwC T N g W P dg).length ≤ 10 := by
    unfold qwC
    split
    · rw [qdt_l]; exact hW
    · split
      · have := (qC1_n (g := g) (P := P) hN hT hW).1
        omega
      · rw [qlt_l]; exact hW
  unfold qwL qwS qpre
  rw [List.length_append, List.length_append, List.length_append, List.length_append, List.length_replicate, List.length_map]
  have e1 : (if st = 0 then ([] : List Int) else [40]).length ≤ 1 := by split <;> decide
  have e2 : (if dg = 1 then [60] else if qwM T N g W P dg = 0 then [] else ([48] : List Int)).length ≤ 1 := by
    split
    · decide
    · split <;> decide
  have e3 : (if mk = 0 then ([] : List Int) else [mk]).length ≤ 1 := by
    split
    · exact Nat.zero_le _
    · exact Nat.le_refl 1
  omega
theorem q_size (d : Nat) (S : zS) (code g : Int) (h : 12 ≤ d) (hK : qK S) (hP : qP (zm S)) (hL : qLt (zm S)) (hT : qRT S) (hC : qRC S) (hR : qRD S) : qAsk vi S (zD d 121 [vr 3, vi code, vi g] S) (zD d 228 [vr 37, vi code, vi g]) qps3 := by
  obtain ⟨e, rfl, h1⟩ := qd h
  by_cases ho : (0 ≤ code ∧ code < zm S 37 4) ∧ (0 ≤ g ∧ g ≤ 3) ∧ qOne S
  · obtain ⟨hc, hg, h0⟩ := ho
    obtain ⟨W, dg, st, bg, mk, E, hw, hdg, hs, ht⟩ := q_prep S code g hK hP hL hT hC hR hc hg h0
    obtain ⟨m1, r1, p1, q1⟩ := s_writeTape e S W dg st bg mk E code g (by omega) hK hP hL hT hC hR hc hg h0 hw hs
    refine Or.inl ⟨(qwL (qTm (zm S) code) (zm S 39 code) g W (qPw (zm S) W dg) dg st bg (qmc mk)).length, m1, ?_, qFq_1 hC q1, fun o => ?_⟩
    · have w1 := p1.2.2.1
      have hP1 := qFq_P hC hP q1
      simp (config := { maxSteps := 2000000 }) (disch := first | omega | (simp only [K_3 hK, K_20 hK, P_3_15 hP, P_3_15 hP1, qb_in, qkW, qmW, qnW, true_and, and_true, or_self, true_or, or_true, and_self]; done) | (simp only [K_3 hK, K_20 hK, P_3_15 hP, P_3_15 hP1, qb_in, qkW, qmW, qnW, true_and, and_true, or_self, true_or, or_true, and_self]; omega)) only [zD_121, b121_0, b121_6, qcall_l, qcall_r, qretn_l, qJ_s, qJ_n, qV0, qEx, ↓qif0, ↓zchk_pos, ↓reduceIte, qput, qWW, qmW, qkW, qnW, K_3 hK, K_20 hK, P_3_15 hP, P_3_15 hP1, r1, w1]
    obtain ⟨m2, r2, z2, p2⟩ := ht e 0 S (qu m1 102 0 o) (Or.inl rfl) (by omega) (by decide) (qFq_o q1 o)
    rw [if_neg (by omega)] at r2
    have hd := r_holds e (qW S m2) 0 (by omega) hK
    rw [qb_p rfl] at hd
    obtain ⟨m3, r3, p4, p5, p6, p7, f3, q4⟩ := q_write e S W dg st bg mk code g (by omega) hK hP hC hc _ (p2 0).2 (p2 0).1 hw
    refine ⟨m3, ?_, ?_, by rw [f3.1 102 (by decide) (by decide), qu_o _ _ _ _ _ (by decide), z2, qu_s], q4⟩
    · have w1 := p4.1
      simp (config := { maxSteps := 2000000 }) (disch := first | omega | (simp only [K_37 hK, qb_in, qkW, qmW, qnW, true_and, and_true, or_self, true_or, or_true, and_self]; done) | (simp only [K_37 hK, qb_in, qkW, qmW, qnW, true_and, and_true, or_self, true_or, or_true, and_self]; omega)) only [zD_228, b228_0, b228_8, b228_11, b228_14, b228_16, b228_22, qcall_l, qcall_r, qretn_l, qJ_s, qJ_n, qV0, qEx, ↓qif0, ↓zchk_pos, ↓reduceIte, qput, qWW, qmW, qkW, qnW, K_37 hK, r2, hd, r3, w1, Int.reduceEq, qmW]
    · rw [f3.2 0 (by decide), qu_s]
  · obtain ⟨x, r1, hx⟩ := s_writeTape_n e S code g (by omega) hK hP hT hC ho
    have r2 := r_errorOfWord_n e (zbump S) code g 0 (by omega) hK hP hT hC (by decide) ho
    have hd := r_holds e (zbump S) (qps3 x) (by omega) hK
    have hx0 := qps3_n hx
    rw [qb_n hx0] at hd
    have r2 : zD e 227 [vr 37, vi code, vi g, vi 0] (zbump S) = some (.inl (some (vi (qps3 x))), zbump S) := by rw [hx]; exact r2
    have key : ∀ Z : zS, qK Z → zD e 227 [vr 37, vi code, vi g, vi 0] Z = some (.inl (some (vi (qps3 x))), Z) → zD e 182 [vr 37, vi (qps3 x)] Z = some (.inl (some (vi 0)), qW Z (qu (zm Z) 37 0 (qps3 x))) → zD (e + 1) 228 [vr 37, vi code, vi g] Z = some (.inl (some (vi 0)), qW Z (qu (zm Z) 37 0 (qps3 x))) := by
      intro Z hK r2 hd
      simp (config := { maxSteps := 2000000 }) (disch := first | omega | (simp only [K_37 hK, qb_in, qkW, qmW, qnW, true_and, and_true, or_self, true_or, or_true, and_self]; done) | (simp only [K_37 hK, qb_in, qkW, qmW, qnW, true_and, and_true, or_self, true_or, or_true, and_self]; omega)) only [zD_228, b228_0, b228_8, b228_11, b228_14, b228_16, b228_22, qcall_l, qcall_r, qretn_l, qJ_s, qJ_n, qV0, qEx, ↓qif0, ↓zchk_pos, ↓reduceIte, qput, qWW, qmW, qkW, qnW, K_37 hK, r2, hd, Int.reduceEq]
    refine Or.inr ⟨x, 0, zm S, qu (zm S) 37 0 (qps3 x), ?_, rfl, ?_, qu_s _ _ _ _, hx0, qFq_r37 (A := []) (J := [0]) (qfr_j _ _ _ (by simp)) (by decide) (by decide)⟩
    · rw [qWS]
      simp (config := { maxSteps := 2000000 }) (disch := first | omega | (simp only [K_3 hK, qb_in, qkW, qmW, qnW, true_and, and_true, or_self, true_or, or_true, and_self]; done) | (simp only [K_3 hK, qb_in, qkW, qmW, qnW, true_and, and_true, or_self, true_or, or_true, and_self]; omega)) only [zD_121, b121_0, b121_6, qcall_l, qcall_r, qretn_l, qJ_s, qJ_n, qV0, qEx, ↓qif0, ↓zchk_pos, ↓reduceIte, qput, qWW, qmW, qkW, qnW, K_3 hK, r1]
    · rw [qWS]
      exact key (zbump S) hK r2 hd
theorem q_isMarked (d : Nat) (S : zS) (code g : Int) (h : 12 ≤ d) (hK : qK S) (hP : qP (zm S)) (hL : qLt (zm S)) (hT : qRT S) (hC : qRC S) (hR : qRD S) : qAsk vi S (zD d 123 [vr 3, vi code, vi g] S) (zD d 230 [vr 37, vi code, vi g]) qps3 := by
  obtain ⟨e, rfl, h1⟩ := qd h
  by_cases ho : (0 ≤ code ∧ code < zm S 37 4) ∧ (0 ≤ g ∧ g ≤ 3) ∧ qOne S
  · obtain ⟨hc, hg, h0⟩ := ho
    obtain ⟨W, dg, st, bg, mk, E, hw, hdg, hs, ht⟩ := q_prep S code g hK hP hL hT hC hR hc hg h0
    obtain ⟨m1, r1, p1, q1⟩ := s_writeTape e S W dg st bg mk E code g (by omega) hK hP hL hT hC hR hc hg h0 hw hs
    have hM : 0 ≤ qwM (qTm (zm S) code) (zm S 39 code) g W (qPw (zm S) W dg) dg ∧ qwM (qTm (zm S) code) (zm S 39 code) g W (qPw (zm S) W dg) dg ≤ 1 := by
      unfold qwM
      have := qc_r (qwOK (qTm (zm S) code) (zm S 39 code) g W (qPw (zm S) W dg))
      split <;> omega
    refine Or.inl ⟨(qwM (qTm (zm S) code) (zm S 39 code) g W (qPw (zm S) W dg) dg), m1, ?_, qFq_1 hC q1, fun o => ?_⟩
    · have w1 := p1.2.2.2.1
      have hP1 := qFq_P hC hP q1
      simp (config := { maxSteps := 2000000 }) (disch := first | omega | (simp only [K_3 hK, K_20 hK, P_3_15 hP, P_3_15 hP1, w1, qb_in, qkW, qmW, qnW, true_and, and_true, or_self, true_or, or_true, and_self]; done) | (simp only [K_3 hK, K_20 hK, P_3_15 hP, P_3_15 hP1, w1, qb_in, qkW, qmW, qnW, true_and, and_true, or_self, true_or, or_true, and_self]; omega)) only [zD_123, b123_0, b123_6, qcall_l, qcall_r, qretn_l, qJ_s, qJ_n, qV0, qEx, ↓qif0, ↓zchk_pos, ↓reduceIte, qput, qWW, qmW, qkW, qnW, K_3 hK, K_20 hK, P_3_15 hP, P_3_15 hP1, r1, w1]
    obtain ⟨m2, r2, z2, p2⟩ := ht e 0 S (qu m1 102 0 o) (Or.inl rfl) (by omega) (by decide) (qFq_o q1 o)
    rw [if_neg (by omega)] at r2
    have hd := r_holds e (qW S m2) 0 (by omega) hK
    rw [qb_p rfl] at hd
    obtain ⟨m3, r3, p4, p5, p6, p7, f3, q4⟩ := q_write e S W dg st bg mk code g (by omega) hK hP hC hc _ (p2 0).2 (p2 0).1 hw
    refine ⟨m3, ?_, ?_, by rw [f3.1 102 (by decide) (by decide), qu_o _ _ _ _ _ (by decide), z2, qu_s], q4⟩
    · simp (config := { maxSteps := 2000000 }) (disch := first | omega | (simp only [K_37 hK, p7, qb_in, qkW, qmW, qnW, true_and, and_true, or_self, true_or, or_true, and_self]; done) | (simp only [K_37 hK, p7, qb_in, qkW, qmW, qnW, true_and, and_true, or_self, true_or, or_true, and_self]; omega)) only [zD_230, b230_0, b230_8, b230_11, b230_14, b230_16, b230_22, qcall_l, qcall_r, qretn_l, qJ_s, qJ_n, qV0, qEx, ↓qif0, ↓zchk_pos, ↓reduceIte, qput, qWW, qmW, qkW, qnW, K_37 hK, r2, hd, r3, p7, Int.reduceEq, qmW]
    · rw [f3.2 0 (by decide), qu_s]
  · obtain ⟨x, r1, hx⟩ := s_writeTape_n e S code g (by omega) hK hP hT hC ho
    have r2 := r_errorOfWord_n e (zbump S) code g 0 (by omega) hK hP hT hC (by decide) ho
    have hd := r_holds e (zbump S) (qps3 x) (by omega) hK
    have hx0 := qps3_n hx
    rw [qb_n hx0] at hd
    have r2 : zD e 227 [vr 37, vi code, vi g, vi 0] (zbump S) = some (.inl (some (vi (qps3 x))), zbump S) := by rw [hx]; exact r2
    have key : ∀ Z : zS, qK Z → zD e 227 [vr 37, vi code, vi g, vi 0] Z = some (.inl (some (vi (qps3 x))), Z) → zD e 182 [vr 37, vi (qps3 x)] Z = some (.inl (some (vi 0)), qW Z (qu (zm Z) 37 0 (qps3 x))) → zD (e + 1) 230 [vr 37, vi code, vi g] Z = some (.inl (some (vi 0)), qW Z (qu (zm Z) 37 0 (qps3 x))) := by
      intro Z hK r2 hd
      simp (config := { maxSteps := 2000000 }) (disch := first | omega | (simp only [K_37 hK, qb_in, qkW, qmW, qnW, true_and, and_true, or_self, true_or, or_true, and_self]; done) | (simp only [K_37 hK, qb_in, qkW, qmW, qnW, true_and, and_true, or_self, true_or, or_true, and_self]; omega)) only [zD_230, b230_0, b230_8, b230_11, b230_14, b230_16, b230_22, qcall_l, qcall_r, qretn_l, qJ_s, qJ_n, qV0, qEx, ↓qif0, ↓zchk_pos, ↓reduceIte, qput, qWW, qmW, qkW, qnW, K_37 hK, r2, hd, Int.reduceEq, Int.reduceLE, true_and, and_self]
    refine Or.inr ⟨x, 0, zm S, qu (zm S) 37 0 (qps3 x), ?_, rfl, ?_, qu_s _ _ _ _, hx0, qFq_r37 (A := []) (J := [0]) (qfr_j _ _ _ (by simp)) (by decide) (by decide)⟩
    · rw [qWS]
      simp (config := { maxSteps := 2000000 }) (disch := first | omega | (simp only [K_3 hK, qb_in, qkW, qmW, qnW, true_and, and_true, or_self, true_or, or_true, and_self]; done) | (simp only [K_3 hK, qb_in, qkW, qmW, qnW, true_and, and_true, or_self, true_or, or_true, and_self]; omega)) only [zD_123, b123_0, b123_6, qcall_l, qcall_r, qretn_l, qJ_s, qJ_n, qV0, qEx, ↓qif0, ↓zchk_pos, ↓reduceIte, qput, qWW, qmW, qkW, qnW, K_3 hK, r1]
    · rw [qWS]
      exact key (zbump S) hK r2 hd
theorem q_cell (d : Nat) (S : zS) (code g i : Int) (h : 12 ≤ d) (hK : qK S) (hP : qP (zm S)) (hL : qLt (zm S)) (hT : qRT S) (hC : qRC S) (hR : qRD S) : qAsk vi S (zD d 122 [vr 3, vi code, vi g, vi i] S) (zD d 229 [vr 37, vi code, vi g, vi i]) qps3 := by
  obtain ⟨e, rfl, h1⟩ := qd h
  have key : ∀ (Z : zS) (x : Nat), qK Z → (i < 0 → x = 2) → (¬ i < 0 → zD e 227 [vr 37, vi code, vi g, vi 0] Z = some (.inl (some (vi (qps3 x))), Z)) → zD e 182 [vr 37, vi (qps3 x)] Z = some (.inl (some (vi 0)), qW Z (qu (zm Z) 37 0 (qps3 x))) → zD (e + 1) 229 [vr 37, vi code, vi g, vi i] Z = some (.inl (some (vi 0)), qW Z (qu (zm Z) 37 0 (qps3 x))) := by
    intro Z x hK hi r2 hd
    by_cases hi0 : i < 0
    · have hx := hi hi0
      subst hx
      rw [show qps3 2 = 1 from rfl] at hd ⊢
      simp (config := { maxSteps := 2000000 }) (disch := first | omega | (simp only [K_37 hK, qb_in, qkW, qmW, qnW, true_and, and_true, or_self, true_or, or_true, and_self]; done) | (simp only [K_37 hK, qb_in, qkW, qmW, qnW, true_and, and_true, or_self, true_or, or_true, and_self]; omega)) only [zD_229, b229_0, b229_5, b229_9, b229_16, b229_19, b229_22, b229_24, b229_30, b229_38, b229_47, b229_48, qcall_l, qcall_r, qretn_l, qJ_s, qJ_n, qV0, qEx, ↓qif0, ↓zchk_pos, ↓reduceIte, qput, qWW, qmW, qkW, qnW, K_37 hK, if_pos hi0, hd, Int.reduceEq]
    · have r2 := r2 hi0
      simp (config := { maxSteps := 2000000 }) (disch := first | omega | (simp only [K_37 hK, qb_in, qkW, qmW, qnW, true_and, and_true, or_self, true_or, or_true, and_self]; done) | (simp only [K_37 hK, qb_in, qkW, qmW, qnW, true_and, and_true, or_self, true_or, or_true, and_self]; omega)) only [zD_229, b229_0, b229_5, b229_9, b229_16, b229_19, b229_22, b229_24, b229_30, b229_38, b229_47, b229_48, qcall_l, qcall_r, qretn_l, qJ_s, qJ_n, qV0, qEx, ↓qif0, ↓zchk_pos, ↓reduceIte, qput, qWW, qmW, qkW, qnW, K_37 hK, if_neg hi0, r2, hd, Int.reduceEq]
  by_cases hi0 : i < 0
  · have hd := r_holds e (zbump S) (qps3 2) (by omega) hK
    rw [qb_n (show ¬ qps3 2 = 0 by decide)] at hd
    refine Or.inr ⟨2, 0, zm S, qu (zm S) 37 0 (qps3 2), ?_, rfl, ?_, qu_s _ _ _ _, by decide, qFq_r37 (A := []) (J := [0]) (qfr_j _ _ _ (by simp)) (by decide) (by decide)⟩
    · rw [qWS]
      simp (config := { maxSteps := 2000000 }) (disch := first | omega | (simp only [K_3 hK, qb_in, qkW, qmW, qnW, true_and, and_true, or_self, true_or, or_true, and_self]; done) | (simp only [K_3 hK, qb_in, qkW, qmW, qnW, true_and, and_true, or_self, true_or, or_true, and_self]; omega)) only [zD_122, b122_0, b122_4, b122_14, b122_20, b122_28, qcall_l, qcall_r, qretn_l, qJ_s, qJ_n, qV0, qEx, ↓qif0, ↓zchk_pos, ↓reduceIte, qput, qWW, qmW, qkW, qnW, K_3 hK, if_pos hi0]
    · rw [qWS]
      exact key (zbump S) 2 hK (fun _ => rfl) (fun q => absurd hi0 q) hd
  · by_cases ho : (0 ≤ code ∧ code < zm S 37 4) ∧ (0 ≤ g ∧ g ≤ 3) ∧ qOne S
    · obtain ⟨hc, hg, h0⟩ := ho
      obtain ⟨W, dg, st, bg, mk, E, hw, hdg, hs, ht⟩ := q_prep S code g hK hP hL hT hC hR hc hg h0
      obtain ⟨m1, r1, p1, q1⟩ := s_writeTape e S W dg st bg mk E code g (by omega) hK hP hL hT hC hR hc hg h0 hw hs
      have hl16 : (qwL (qTm (zm S) code) (zm S 39 code) g W (qPw (zm S) W dg) dg st bg (qmc mk)).length ≤ 16 := by
        obtain ⟨z1, z2, z3, z4⟩ := hC.2.2.1 code hc.1 hc.2
        exact qwL_l z2.2.2.2.1.1 z3 hw.1.2 hw.2.2.2.1.2
      obtain ⟨L, hL9⟩ : ∃ L, qwL (qTm (zm S) code) (zm S 39 code) g W (qPw (zm S) W dg) dg st bg (qmc mk) = L := ⟨_, rfl⟩
      rw [hL9] at p1 hl16
      have hP1 := qFq_P hC hP q1
      have wc := s_wrCell e (qW S m1) 20 21 22 _ _ i L _ (by omega) ⟨K_20 hK, K_21 hK, K_22 hK, by decide, by decide, by decide⟩ p1 hl16
      refine Or.inl ⟨(if 0 ≤ i ∧ i < (L.length : Int) then qnth L i else -1), m1, ?_, qFq_1 hC q1, fun o => ?_⟩
      · simp (config := { maxSteps := 2000000 }) (disch := first | omega | (simp only [K_3 hK, K_20 hK, P_3_15 hP, P_3_15 hP1, qb_in, qkW, qmW, qnW, true_and, and_true, or_self, true_or, or_true, and_self]; done) | (simp only [K_3 hK, K_20 hK, P_3_15 hP, P_3_15 hP1, qb_in, qkW, qmW, qnW, true_and, and_true, or_self, true_or, or_true, and_self]; omega)) only [zD_122, b122_0, b122_4, b122_14, b122_20, b122_28, qcall_l, qcall_r, qretn_l, qJ_s, qJ_n, qV0, qEx, ↓qif0, ↓zchk_pos, ↓reduceIte, qput, qWW, qmW, qkW, qnW, K_3 hK, K_20 hK, P_3_15 hP, P_3_15 hP1, if_neg hi0, r1, wc]
      obtain ⟨m2, r2, z2, p2⟩ := ht e 0 S (qu m1 102 0 o) (Or.inl rfl) (by omega) (by decide) (qFq_o q1 o)
      rw [if_neg (by omega)] at r2
      have hd := r_holds e (qW S m2) 0 (by omega) hK
      rw [qb_p rfl] at hd
      obtain ⟨m3, r3, p4, p5, p6, p7, f3, q4⟩ := q_write e S W dg st bg mk code g (by omega) hK hP hC hc _ (p2 0).2 (p2 0).1 hw
      rw [hL9] at p4
      have hP3 := qFq_P hC hP q4
      refine ⟨m3, ?_, ?_, by rw [f3.1 102 (by decide) (by decide), qu_o _ _ _ _ _ (by decide), z2, qu_s], q4⟩
      · have w1 := p4.1
        by_cases c1 : i < (L.length : Int)
        · have w2 := qA_n p4.2 i (by omega) c1
          rw [if_pos (show 0 ≤ i ∧ i < (L.length : Int) by omega)]
          simp (config := { maxSteps := 2000000 }) (disch := first | omega | (simp only [K_37 hK, K_67 hK, P_37_44 hP, P_37_44 hP3, qb_in, qkW, qmW, qnW, true_and, and_true, or_self, true_or, or_true, and_self]; done) | (simp only [K_37 hK, K_67 hK, P_37_44 hP, P_37_44 hP3, qb_in, qkW, qmW, qnW, true_and, and_true, or_self, true_or, or_true, and_self]; omega)) only [zD_229, b229_0, b229_5, b229_9, b229_16, b229_19, b229_22, b229_24, b229_30, b229_38, b229_47, b229_48, qcall_l, qcall_r, qretn_l, qJ_s, qJ_n, qV0, qEx, ↓qif0, ↓zchk_pos, ↓reduceIte, qput, qWW, qmW, qkW, qnW, K_37 hK, K_67 hK, P_37_44 hP, P_37_44 hP3, if_neg hi0, r2, hd, r3, w1, w2, if_pos c1, Int.reduceEq, qmW]
        · rw [if_neg (show ¬ (0 ≤ i ∧ i < (L.length : Int)) by omega)]
          simp (config := { maxSteps := 2000000 }) (disch := first | omega | (simp only [K_37 hK, qb_in, qkW, qmW, qnW, true_and, and_true, or_self, true_or, or_true, and_self]; done) | (simp only [K_37 hK, qb_in, qkW, qmW, qnW, true_and, and_true, or_self, true_or, or_true, and_self]; omega)) only [zD_229, b229_0, b229_5, b229_9, b229_16, b229_19, b229_22, b229_24, b229_30, b229_38, b229_47, b229_48, qcall_l, qcall_r, qretn_l, qJ_s, qJ_n, qV0, qEx, ↓qif0, ↓zchk_pos, ↓reduceIte, qput, qWW, qmW, qkW, qnW, K_37 hK, if_neg hi0, r2, hd, r3, w1, if_neg c1, Int.reduceEq, qmW]
      · rw [f3.2 0 (by decide), qu_s]
    · obtain ⟨x, r1, hx⟩ := s_writeTape_n e S code g (by omega) hK hP hT hC ho
      have r2 := r_errorOfWord_n e (zbump S) code g 0 (by omega) hK hP hT hC (by decide) ho
      have hd := r_holds e (zbump S) (qps3 x) (by omega) hK
      have hx0 := qps3_n hx
      rw [qb_n hx0] at hd
      have r2 : zD e 227 [vr 37, vi code, vi g, vi 0] (zbump S) = some (.inl (some (vi (qps3 x))), zbump S) := by rw [hx]; exact r2
      refine Or.inr ⟨x, 0, zm S, qu (zm S) 37 0 (qps3 x), ?_, rfl, ?_, qu_s _ _ _ _, hx0, qFq_r37 (A := []) (J := [0]) (qfr_j _ _ _ (by simp)) (by decide) (by decide)⟩
      · rw [qWS]
        simp (config := { maxSteps := 2000000 }) (disch := first | omega | (simp only [K_3 hK, qb_in, qkW, qmW, qnW, true_and, and_true, or_self, true_or, or_true, and_self]; done) | (simp only [K_3 hK, qb_in, qkW, qmW, qnW, true_and, and_true, or_self, true_or, or_true, and_self]; omega)) only [zD_122, b122_0, b122_4, b122_14, b122_20, b122_28, qcall_l, qcall_r, qretn_l, qJ_s, qJ_n, qV0, qEx, ↓qif0, ↓zchk_pos, ↓reduceIte, qput, qWW, qmW, qkW, qnW, K_3 hK, if_neg hi0, r1]
      · rw [qWS]
        exact key (zbump S) x hK (fun q => absurd q hi0) (fun _ => r2) hd
