/-! Typing: both take the same characters. -/
def qgd (c n : Int) : Prop := ∀ j, 0 ≤ j → j < n → qst (qch c j)
theorem s_typeCheck (e : Nat) (S : zS) (c n : Int) (he : 3 ≤ e) (hn : 1 ≤ n ∧ n ≤ 8) : ∀ (g : Nat) (i : Int) (x2 : zV), 0 ≤ i → i + g = n →
    ((∀ j, i ≤ j → j < n → qst (qch c j)) → ∃ y, zF_115 e 24 [vr 3, vl c, x2, vi n, vi i] [] S = zF_115 e 58 [vr 3, vl c, vu, vi n, y] [] S) ∧
    (¬ (∀ j, i ≤ j → j < n → qst (qch c j)) → zF_115 e 24 [vr 3, vl c, x2, vi n, vi i] [] S = some (.inr 0, zbump S)) := by
  intro g
  induction g with
  | zero =>
    intro i x2 hi hin
    refine ⟨fun _ => ⟨vi i, ?_⟩, fun z => absurd (fun j h1 h2 => by omega) z⟩
    rw [b115_24, if_neg (show ¬ i < n by omega)]
  | succ g ih =>
    intro i x2 hi hin
    have cc := s_characterOf e S c i (by omega) (by omega)
    have al := s_isAllowed e (qch c i) S he
    obtain ⟨h1, h2⟩ := ih (i + 1) vu (by omega) (by omega)
    by_cases q : qst (qch c i)
    · rw [qb_p q] at al
      have st : zF_115 e 24 [vr 3, vl c, x2, vi n, vi i] [] S = zF_115 e 24 [vr 3, vl c, vu, vi n, vi (i + 1)] [] S := by
        rw [b115_24]
        simp (config := { maxSteps := 2000000 }) (disch := first | omega | (simp only [qb_in, qkW, qmW, qnW, true_and, and_true, or_self, true_or, or_true, and_self]; done) | (simp only [qb_in, qkW, qmW, qnW, true_and, and_true, or_self, true_or, or_true, and_self]; omega)) only [b115_0, b115_5, b115_11, b115_21, b115_30, b115_36, b115_39, b115_42, b115_52, b115_72, b115_82, b115_91, b115_101, b115_104, b115_110, qcall_l, qcall_r, qretn_l, qJ_s, qJ_n, qV0, qEx, ↓qif0, ↓zchk_pos, ↓reduceIte, qput, qWW, qmW, qkW, qnW, if_pos (show i < n by omega), cc, al, q32, Int.reduceEq]
      rw [st]
      refine ⟨fun z => h1 fun j j1 j2 => z j (by omega) j2, fun z => h2 fun w => z fun j j1 j2 => ?_⟩
      by_cases w2 : j = i
      · rw [w2]; exact q
      · exact w j (by omega) j2
    · rw [qb_n q] at al
      refine ⟨fun z => absurd (z i (Int.le_refl i) (by omega)) q, fun _ => ?_⟩
      rw [b115_24]
      simp (config := { maxSteps := 2000000 }) (disch := first | omega | (simp only [qb_in, qkW, qmW, qnW, true_and, and_true, or_self, true_or, or_true, and_self]; done) | (simp only [qb_in, qkW, qmW, qnW, true_and, and_true, or_self, true_or, or_true, and_self]; omega)) only [b115_0, b115_5, b115_11, b115_21, b115_30, b115_36, b115_39, b115_42, b115_52, b115_72, b115_82, b115_91, b115_101, b115_104, b115_110, qcall_l, qcall_r, qretn_l, qJ_s, qJ_n, qV0, qEx, ↓qif0, ↓zchk_pos, ↓reduceIte, qput, qWW, qmW, qkW, qnW, if_pos (show i < n by omega), cc, al, Int.reduceEq]
theorem s_typeAppend (e : Nat) (S : zS) (c n k : Int) (t : Int → Int) (he : 1 ≤ e) (hK : qK S) (hP : qP (zm S)) (hn : 1 ≤ n ∧ n ≤ 8) (hk : 0 ≤ k ∧ k + n ≤ 60) (m0 : Int → Int → Int) (e5 : m0 5 = t) (hP0 : qP m0) : ∀ (g i : Nat) (x2 : zV) (m : Int → Int → Int), (i : Int) + g = n → m 4 1 = k + i → m 5 = qty t k c i → (∀ x, x ≠ 4 → x ≠ 5 → m x = m0 x) → (∀ j, j ≠ 1 → m 4 j = m0 4 j) →
    ∃ m', zF_115 e 85 [vr 3, vl c, x2, vi n, vi i] [] (qW S m) = some (.inl (some (vi (k + n))), qW S m') ∧ m' 4 1 = k + n ∧ m' 5 = qty t k c n.toNat ∧ (∀ x, x ≠ 4 → x ≠ 5 → m' x = m0 x) ∧ (∀ j, j ≠ 1 → m' 4 j = m0 4 j) := by
  intro g
  induction g with
  | zero =>
    intro i x2 m hi h1 h5 f1 f2
    have hin : (i : Int) = n := by omega
    have e3 : m 3 = m0 3 := f1 3 (by decide) (by decide)
    refine ⟨m, ?_, by rw [h1, hin], by rw [h5, show i = n.toNat by omega], f1, f2⟩
    rw [b115_85]
    rw [hin] at h1
    simp (config := { maxSteps := 2000000 }) (disch := first | omega | (simp only [K_3 hK, K_4 hK, P_3_0 hP, P_3_0 hP0, e3, qb_in, qkW, qmW, qnW, true_and, and_true, or_self, true_or, or_true, and_self]; done) | (simp only [K_3 hK, K_4 hK, P_3_0 hP, P_3_0 hP0, e3, qb_in, qkW, qmW, qnW, true_and, and_true, or_self, true_or, or_true, and_self]; omega)) only [b115_0, b115_5, b115_11, b115_21, b115_30, b115_36, b115_39, b115_42, b115_52, b115_58, b115_72, b115_82, b115_91, b115_101, b115_104, b115_110, qcall_l, qcall_r, qretn_l, qJ_s, qJ_n, qV0, qEx, ↓qif0, ↓zchk_pos, ↓reduceIte, qput, qWW, qmW, qkW, qnW, K_3 hK, K_4 hK, P_3_0 hP, e3, P_3_0 hP0, hin, Int.lt_irrefl, h1]
  | succ g ih =>
    intro i x2 m hi h1 h5 f1 f2
    have e3 : m 3 = m0 3 := f1 3 (by decide) (by decide)
    have hPm : qP m := hP0.same fun q hq => by
      by_cases c4 : q.1 = 4
      · rw [c4]
        refine f2 q.2.1 fun z => ?_
        revert q
        decide
      · refine congrFun (f1 q.1 c4 ?_) _
        revert q
        decide
    have cc := s_characterOf e (qW S m) c i he (by omega)
    have rr := qch_r c i (by omega)
    have ap := s_tapeAppend e (qW S m) (k + i) (qch c i) he hK hPm h1 (by omega) (by omega)
    obtain ⟨m', r, p⟩ := ih (i + 1) vu (qu (qu m 5 (k + i) (qch c i)) 4 1 (k + i + 1)) (by omega) (by rw [qu_s]; omega) (by
      rw [qu_o _ _ _ _ _ (by decide), qu_row, h5]
      rfl) (fun x x4 x5 => by rw [qu_o _ _ _ _ _ x4, qu_o _ _ _ _ _ x5, f1 x x4 x5]) (fun j j1 => by rw [qu_i _ _ _ _ _ j1, qu_o _ _ _ _ _ (by decide), f2 j j1])
    refine ⟨m', ?_, p⟩
    rw [b115_85]
    simp (config := { maxSteps := 2000000 }) (disch := first | omega | (simp only [K_3 hK, K_4 hK, P_3_0 hP, P_3_0 hP0, e3, qb_in, qkW, qmW, qnW, true_and, and_true, or_self, true_or, or_true, and_self]; done) | (simp only [K_3 hK, K_4 hK, P_3_0 hP, P_3_0 hP0, e3, qb_in, qkW, qmW, qnW, true_and, and_true, or_self, true_or, or_true, and_self]; omega)) only [b115_0, b115_5, b115_11, b115_21, b115_30, b115_36, b115_39, b115_42, b115_52, b115_58, b115_72, b115_82, b115_91, b115_101, b115_104, b115_110, qcall_l, qcall_r, qretn_l, qJ_s, qJ_n, qV0, qEx, ↓qif0, ↓zchk_pos, ↓reduceIte, qput, qWW, qmW, qkW, qnW, K_3 hK, K_4 hK, P_3_0 hP, e3, P_3_0 hP0, if_pos (show (i : Int) < n by omega), cc, ap, q32]
    exact r
theorem r_typeCheck (e : Nat) (S : zS) (c n : Int) (he : 3 ≤ e) (hn : 1 ≤ n ∧ n ≤ 8) : ∀ (g : Nat) (i : Int) (x2 : zV), 0 ≤ i → i + g = n →
    ((∀ j, i ≤ j → j < n → qst (qch c j)) → ∃ y, zF_196 e 12 [vr 37, vl c, x2, vi n, vi 1, vi i] [] S = zF_196 e 53 [vr 37, vl c, vu, vi n, vi 1, y] [] S) ∧
    (¬ (∀ j, i ≤ j → j < n → qst (qch c j)) → ∃ y, zF_196 e 12 [vr 37, vl c, x2, vi n, vi 1, vi i] [] S = zF_196 e 53 [vr 37, vl c, vu, vi n, vi 0, y] [] S) := by
  intro g
  induction g with
  | zero =>
    intro i x2 hi hin
    refine ⟨fun _ => ⟨vi i, ?_⟩, fun z => absurd (fun j h1 h2 => by omega) z⟩
    rw [b196_12]
    by_cases q : i < 8
    · simp (config := { maxSteps := 2000000 }) (disch := first | omega | (simp only [qb_in, qkW, qmW, qnW, true_and, and_true, or_self, true_or, or_true, and_self]; done) | (simp only [qb_in, qkW, qmW, qnW, true_and, and_true, or_self, true_or, or_true, and_self]; omega)) only [b196_0, b196_7, b196_19, b196_24, b196_30, b196_45, b196_59, b196_63, b196_74, b196_78, b196_79, b196_82, b196_85, b196_87, b196_96, b196_114, b196_128, b196_134, qcall_l, qcall_r, qretn_l, qJ_s, qJ_n, qV0, qEx, ↓qif0, ↓zchk_pos, ↓reduceIte, qput, qWW, qmW, qkW, qnW, if_pos q, if_neg (show ¬ i < n by omega), Int.reduceEq]
    · rw [if_neg q]
  | succ g ih =>
    intro i x2 hi hin
    have rr := qch_r c i (by omega)
    have ec : zlnd (zlshr c (8 * i)) 255 = qch c i := rfl
    have al := r_canStand e (qch c i) S (by omega) (by omega)
    obtain ⟨h1, h2⟩ := ih (i + 1) vu (by omega) (by omega)
    by_cases q : qst (qch c i)
    · rw [qb_p q] at al
      have st : zF_196 e 12 [vr 37, vl c, x2, vi n, vi 1, vi i] [] S = zF_196 e 12 [vr 37, vl c, vu, vi n, vi 1, vi (i + 1)] [] S := by
        rw [b196_12]
        simp (config := { maxSteps := 2000000 }) (disch := first | omega | (simp only [qb_in, qkW, qmW, qnW, true_and, and_true, or_self, true_or, or_true, and_self]; done) | (simp only [qb_in, qkW, qmW, qnW, true_and, and_true, or_self, true_or, or_true, and_self]; omega)) only [b196_0, b196_7, b196_19, b196_24, b196_30, b196_45, b196_59, b196_63, b196_74, b196_78, b196_79, b196_82, b196_85, b196_87, b196_96, b196_114, b196_128, b196_134, qcall_l, qcall_r, qretn_l, qJ_s, qJ_n, qV0, qEx, ↓qif0, ↓zchk_pos, ↓reduceIte, qput, qWW, qmW, qkW, qnW, if_pos (show i < 8 by omega), if_pos (show i < n by omega), q32, ec, al, Int.reduceEq]
      rw [st]
      refine ⟨fun z => h1 fun j j1 j2 => z j (by omega) j2, fun z => h2 fun w => z fun j j1 j2 => ?_⟩
      by_cases w2 : j = i
      · rw [w2]; exact q
      · exact w j (by omega) j2
    · rw [qb_n q] at al
      refine ⟨fun z => absurd (z i (Int.le_refl i) (by omega)) q, fun _ => ⟨vi (i + 1), ?_⟩⟩
      have st : zF_196 e 12 [vr 37, vl c, x2, vi n, vi 1, vi i] [] S = zF_196 e 12 [vr 37, vl c, vu, vi n, vi 0, vi (i + 1)] [] S := by
        rw [b196_12]
        simp (config := { maxSteps := 2000000 }) (disch := first | omega | (simp only [qb_in, qkW, qmW, qnW, true_and, and_true, or_self, true_or, or_true, and_self]; done) | (simp only [qb_in, qkW, qmW, qnW, true_and, and_true, or_self, true_or, or_true, and_self]; omega)) only [b196_0, b196_7, b196_19, b196_24, b196_30, b196_45, b196_59, b196_63, b196_74, b196_78, b196_79, b196_82, b196_85, b196_87, b196_96, b196_114, b196_128, b196_134, qcall_l, qcall_r, qretn_l, qJ_s, qJ_n, qV0, qEx, ↓qif0, ↓zchk_pos, ↓reduceIte, qput, qWW, qmW, qkW, qnW, if_pos (show i < 8 by omega), if_pos (show i < n by omega), q32, ec, al, Int.reduceEq]
      rw [st, b196_12]
      by_cases q8 : i + 1 < 8
      · simp (config := { maxSteps := 2000000 }) (disch := first | omega | (simp only [qb_in, qkW, qmW, qnW, true_and, and_true, or_self, true_or, or_true, and_self]; done) | (simp only [qb_in, qkW, qmW, qnW, true_and, and_true, or_self, true_or, or_true, and_self]; omega)) only [b196_0, b196_7, b196_19, b196_24, b196_30, b196_45, b196_59, b196_63, b196_74, b196_78, b196_79, b196_82, b196_85, b196_87, b196_96, b196_114, b196_128, b196_134, qcall_l, qcall_r, qretn_l, qJ_s, qJ_n, qV0, qEx, ↓qif0, ↓zchk_pos, ↓reduceIte, qput, qWW, qmW, qkW, qnW, if_pos q8, Int.reduceEq]
      · rw [if_neg q8]
theorem r_typeAppend (e : Nat) (S : zS) (c n k : Int) (t : Int → Int) (hK : qK S) (hn : 1 ≤ n ∧ n ≤ 8) (hk : 0 ≤ k ∧ k + n ≤ 60) (m0 : Int → Int → Int) (hP0 : qP m0) : ∀ (g i : Nat) (x2 x4 : zV) (m : Int → Int → Int), (i : Int) + g = n → m 37 2 = k + i → m 38 = qty t k c i → (∀ x, x ≠ 37 → x ≠ 38 → m x = m0 x) → (∀ j, j ≠ 2 → m 37 j = m0 37 j) →
    ∃ m', zF_196 e 90 [vr 37, vl c, x2, vi n, x4, vi i] [] (qW S m) = some (.inl (some (vi (k + n))), qW S m') ∧ m' 37 2 = k + n ∧ m' 38 = qty t k c n.toNat ∧ (∀ x, x ≠ 37 → x ≠ 38 → m' x = m0 x) ∧ (∀ j, j ≠ 2 → m' 37 j = m0 37 j) := by
  intro g
  induction g with
  | zero =>
    intro i x2 x4 m hi h1 h5 f1 f2
    have hin : (i : Int) = n := by omega
    refine ⟨m, ?_, by rw [h1, hin], by rw [h5, show i = n.toNat by omega], f1, f2⟩
    rw [b196_90]
    rw [hin] at h1
    simp (config := { maxSteps := 2000000 }) (disch := first | omega | (simp only [K_37 hK, qb_in, qkW, qmW, qnW, true_and, and_true, or_self, true_or, or_true, and_self]; done) | (simp only [K_37 hK, qb_in, qkW, qmW, qnW, true_and, and_true, or_self, true_or, or_true, and_self]; omega)) only [b196_0, b196_7, b196_19, b196_24, b196_30, b196_45, b196_53, b196_59, b196_63, b196_74, b196_78, b196_79, b196_82, b196_85, b196_87, b196_96, b196_114, b196_128, b196_134, qcall_l, qcall_r, qretn_l, qJ_s, qJ_n, qV0, qEx, ↓qif0, ↓zchk_pos, ↓reduceIte, qput, qWW, qmW, qkW, qnW, K_37 hK, hin, Int.lt_irrefl, h1]
  | succ g ih =>
    intro i x2 x4 m hi h1 h5 f1 f2
    have rr := qch_r c i (by omega)
    have ec : zlnd (zlshr c (8 * i)) 255 = qch c i := rfl
    have c1 : qch c i % 65536 = qch c i := by omega
    have p1 : m 37 1 = 38 := by rw [f2 1 (by decide)]; exact P_37_1 hP0
    have e37 : qu m 38 (k + i) (qch c i) 37 = m 37 := qu_o _ _ _ _ _ (by decide)
    obtain ⟨m', r, p⟩ := ih (i + 1) vu vu (qu (qu m 38 (k + i) (qch c i)) 37 2 (k + i + 1)) (by omega) (by rw [qu_s]; omega) (by
      rw [qu_o _ _ _ _ _ (by decide), qu_row, h5]
      rfl) (fun x x4 x5 => by rw [qu_o _ _ _ _ _ x4, qu_o _ _ _ _ _ x5, f1 x x4 x5]) (fun j j1 => by rw [qu_i _ _ _ _ _ j1, qu_o _ _ _ _ _ (by decide), f2 j j1])
    refine ⟨m', ?_, p⟩
    rw [b196_90]
    simp (config := { maxSteps := 2000000 }) (disch := first | omega | (simp only [K_37 hK, K_38 hK, p1, e37, h1, qb_in, qkW, qmW, qnW, true_and, and_true, or_self, true_or, or_true, and_self]; done) | (simp only [K_37 hK, K_38 hK, p1, e37, h1, qb_in, qkW, qmW, qnW, true_and, and_true, or_self, true_or, or_true, and_self]; omega)) only [b196_0, b196_7, b196_19, b196_24, b196_30, b196_45, b196_53, b196_59, b196_63, b196_74, b196_78, b196_79, b196_82, b196_85, b196_87, b196_96, b196_114, b196_128, b196_134, qcall_l, qcall_r, qretn_l, qJ_s, qJ_n, qV0, qEx, ↓qif0, ↓zchk_pos, ↓reduceIte, qput, qWW, qmW, qkW, qnW, K_37 hK, K_38 hK, p1, if_pos (show (i : Int) < n by omega), q32, ec, c1, h1, e37]
    exact r
theorem q_type (d : Nat) (S : zS) (c n : Int) (h : 5 ≤ d) (hK : qK S) (hP : qP (zm S)) (hT : qRT S) : qAskW (fun m2 => qFtp S m2 ∧ qRT (qW S m2)) S (zD d 115 [vr 3, vl c, vi n] S) (zD d 196 [vr 37, vl c, vi n]) qpsA := by
  obtain ⟨e, rfl, h1⟩ := qd h
  obtain ⟨t1, t2, t3, t4⟩ := hT
  have bad : ∀ (x : Nat), (¬ qpsA x = 0) → zD (e + 1) 115 [vr 3, vl c, vi n] S = some (.inr x, zbump S) → zD (e + 1) 196 [vr 37, vl c, vi n] (zbump S) = some (.inl (some (vi 0)), qW (zbump S) (qu (zm S) 37 0 (qpsA x))) → qAskW (fun m2 => qFtp S m2 ∧ qRT (qW S m2)) S (zD (e + 1) 115 [vr 3, vl c, vi n] S) (zD (e + 1) 196 [vr 37, vl c, vi n]) qpsA := fun x hx r1 r2 =>
    Or.inr ⟨x, 0, zm S, qu (zm S) 37 0 (qpsA x), r1, rfl, by rw [qWS]; exact r2, qu_s _ _ _ _, hx, qFq_37x (qFq_r S) (qfr_j (A := []) (J := [0]) _ _ _ (by decide)) (by decide) (by decide)⟩
  by_cases hn : 1 ≤ n ∧ n ≤ 8
  · by_cases hg : ∀ j, 0 ≤ j → j < n → qst (qch c j)
    · obtain ⟨y1, s1⟩ := (s_typeCheck e S c n (by omega) hn n.toNat 0 vu (Int.le_refl 0) (by omega)).1 hg
      by_cases hl : zm S 37 2 + n ≤ 60
      · obtain ⟨m1, s2, a1, a2, a3, a4⟩ := s_typeAppend e S c n (zm S 37 2) (zm S 5) (by omega) hK hP hn (by omega) (zm S) rfl hP n.toNat 0 vu (zm S) (by omega) (by rw [t1]; omega) rfl (fun _ _ _ => rfl) (fun _ _ => rfl)
        refine Or.inl ⟨(zm S 37 2 + n), m1, ?_, a3 1 (by decide) (by decide), fun o => ?_⟩
        · rw [qWS] at s2
          have s2 : zF_115 e 85 [vr 3, vl c, vu, vi n, vi 0] [] S = some (.inl (some (vi (zm S 37 2 + n))), qW S m1) := s2
          simp (config := { maxSteps := 2000000 }) (disch := first | omega | (simp only [qb_in, qkW, qmW, qnW, true_and, and_true, or_self, true_or, or_true, and_self]; done) | (simp only [qb_in, qkW, qmW, qnW, true_and, and_true, or_self, true_or, or_true, and_self]; omega)) only [zD_115, b115_0, b115_5, b115_11, b115_21, b115_30, b115_36, b115_39, b115_42, b115_52, b115_72, b115_82, b115_91, b115_101, b115_104, b115_110, qcall_l, qcall_r, qretn_l, qJ_s, qJ_n, qV0, qEx, ↓qif0, ↓zchk_pos, ↓reduceIte, qput, qWW, qmW, qkW, qnW, if_neg (show ¬ n < 1 by omega), if_neg (show ¬ 8 < n by omega)]
          rw [s1, b115_58]
          simp (config := { maxSteps := 2000000 }) (disch := first | omega | (simp only [K_3 hK, K_4 hK, P_3_0 hP, P_3_0 hP, t1, qb_in, qkW, qmW, qnW, true_and, and_true, or_self, true_or, or_true, and_self]; done) | (simp only [K_3 hK, K_4 hK, P_3_0 hP, P_3_0 hP, t1, qb_in, qkW, qmW, qnW, true_and, and_true, or_self, true_or, or_true, and_self]; omega)) only [b115_0, b115_5, b115_11, b115_21, b115_30, b115_36, b115_39, b115_42, b115_52, b115_58, b115_72, b115_82, b115_91, b115_101, b115_104, b115_110, qcall_l, qcall_r, qretn_l, qJ_s, qJ_n, qV0, qEx, ↓qif0, ↓zchk_pos, ↓reduceIte, qput, qWW, qmW, qkW, qnW, K_3 hK, K_4 hK, P_3_0 hP, P_3_0 hP, t1, q32, if_neg (show ¬ 60 < zm S 37 2 + n by omega), s2]
        obtain ⟨m9, hm9⟩ : ∃ m9, qu m1 102 0 o = m9 := ⟨_, rfl⟩
        rw [hm9]
        have g9 : ∀ x, x ≠ 102 → m9 x = m1 x := fun x hx => by rw [← hm9, qu_o _ _ _ _ _ hx]
        have a1 : m9 4 1 = zm S 37 2 + n := by rw [g9 4 (by decide)]; exact a1
        have a2 : m9 5 = qty (zm S 5) (zm S 37 2) c n.toNat := by rw [g9 5 (by decide)]; exact a2
        have a3 : ∀ x, x ≠ 4 → x ≠ 5 ∧ x ≠ 102 → m9 x = zm S x := fun x x4 x5 => by rw [g9 x x5.2, a3 x x4 x5.1]
        have a4 : ∀ j, j ≠ 1 → m9 4 j = zm S 4 j := fun j hj => by rw [g9 4 (by decide), a4 j hj]
        have hi := r_in e n 1 8 (qW S m9) (by omega)
        rw [qb_p hn] at hi
        obtain ⟨y2, r1⟩ := (r_typeCheck e (qW S m9) c n (by omega) hn n.toNat 0 vu (Int.le_refl 0) (by omega)).1 hg
        have hd := r_holds e (qW S m9) 0 (by omega) hK
        rw [qb_p rfl] at hd
        have hd : zD e 182 [vr 37, vi 0] (qW S m9) = some (.inl (some (vi 1)), qW S (qu m9 37 0 0)) := hd
        have g2 : m9 37 2 = zm S 37 2 := congrFun (a3 37 (by decide) (by decide)) 2
        have hPq : qP (qu m9 37 0 0) := hP.same fun q hq => by
          have n4 : ¬ (q.1 = 4 ∧ q.2.1 = 1) ∧ (q.1 ≠ 5 ∧ q.1 ≠ 102) ∧ ¬ (q.1 = 37 ∧ q.2.1 = 0) := by
            revert q
            decide
          by_cases c37 : q.1 = 37
          · rw [c37, qu_i _ _ _ _ _ (fun z => n4.2.2 ⟨c37, z⟩), a3 37 (by decide) (by decide)]
          · rw [qu_o _ _ _ _ _ c37]
            by_cases c4 : q.1 = 4
            · rw [c4]
              exact a4 _ fun z => n4.1 ⟨c4, z⟩
            · rw [a3 q.1 c4 n4.2.1]
        obtain ⟨m2, r2, b1, b2, b3, b4⟩ := r_typeAppend e S c n (zm S 37 2) (zm S 38) hK hn (by omega) (qu m9 37 0 0) hPq n.toNat 0 vu vu (qu m9 37 0 0) (by omega) (by rw [qu_i _ _ _ _ _ (by decide), g2]; omega) (by rw [qu_o _ _ _ _ _ (by decide), a3 38 (by decide) (by decide)]; rfl) (fun _ _ _ => rfl) (fun _ _ => rfl)
        refine ⟨m2, ?_, by rw [b4 0 (by decide), qu_s], by rw [b3 102 (by decide) (by decide), qu_o _ _ _ _ _ (by decide), ← hm9, qu_s], fun x j q => ?_, ?_, ?_, ?_, ?_⟩
        · have r2 : zF_196 e 90 [vr 37, vl c, vu, vi n, vu, vi 0] [] (qW S (qu m9 37 0 0)) = some (.inl (some (vi (zm S 37 2 + n))), qW S m2) := r2
          simp (config := { maxSteps := 2000000 }) (disch := first | omega | (simp only [qb_in, qkW, qmW, qnW, true_and, and_true, or_self, true_or, or_true, and_self]; done) | (simp only [qb_in, qkW, qmW, qnW, true_and, and_true, or_self, true_or, or_true, and_self]; omega)) only [zD_196, b196_0, b196_7, b196_19, b196_24, b196_30, b196_45, b196_59, b196_63, b196_74, b196_78, b196_79, b196_82, b196_85, b196_87, b196_96, b196_114, b196_128, b196_134, qcall_l, qcall_r, qretn_l, qJ_s, qJ_n, qV0, qEx, ↓qif0, ↓zchk_pos, ↓reduceIte, qput, qWW, qmW, qkW, qnW, hi]
          rw [r1, b196_53]
          simp (config := { maxSteps := 2000000 }) (disch := first | omega | (simp only [K_37 hK, qb_in, qkW, qmW, qnW, true_and, and_true, or_self, true_or, or_true, and_self]; done) | (simp only [K_37 hK, qb_in, qkW, qmW, qnW, true_and, and_true, or_self, true_or, or_true, and_self]; omega)) only [b196_0, b196_7, b196_19, b196_24, b196_30, b196_45, b196_53, b196_59, b196_63, b196_74, b196_78, b196_79, b196_82, b196_85, b196_87, b196_96, b196_114, b196_128, b196_134, qcall_l, qcall_r, qretn_l, qJ_s, qJ_n, qV0, qEx, ↓qif0, ↓zchk_pos, ↓reduceIte, qput, qWW, qmW, qkW, qnW, K_37 hK, g2, q32, if_neg (show ¬ 60 < zm S 37 2 + n by omega), hd, r2, Int.reduceEq]
        · by_cases c37 : x = 37
          · subst c37
            rw [b4 j (by omega), qu_i _ _ _ _ _ (by omega), a3 37 (by decide) (by decide)]
          · rw [b3 x c37 (by omega), qu_o _ _ _ _ _ c37]
            by_cases c4 : x = 4
            · subst c4
              exact a4 j (by omega)
            · rw [a3 x c4 (by omega)]
        · show m2 4 1 = m2 37 2
          rw [b1, b3 4 (by decide) (by decide), qu_o _ _ _ _ _ (by decide), a1]
        · show 0 ≤ m2 37 2 ∧ m2 37 2 ≤ 60
          rw [b1]
          omega
        · intro i i2
          have i2 : i < m2 37 2 := i2
          rw [b1] at i2
          show m2 5 i = m2 38 i
          rw [b2, b3 5 (by decide) (by decide), qu_o _ _ _ _ _ (by decide), a2]
          exact qty_e t3 n.toNat i (by omega)
        · intro i i1 i2
          have i2 : i < m2 37 2 := i2
          rw [b1] at i2
          show 0 ≤ m2 38 i ∧ m2 38 i < 65536
          rw [b2]
          exact qty_r t4 n.toNat (by omega) i i1 (by omega)
      · have hi := r_in e n 1 8 (zbump S) (by omega)
        rw [qb_p hn] at hi
        obtain ⟨y2, r1⟩ := (r_typeCheck e (zbump S) c n (by omega) hn n.toNat 0 vu (Int.le_refl 0) (by omega)).1 hg
        have hd := r_holds e (zbump S) 2 (by omega) hK
        rw [qb_n (by decide)] at hd
        refine bad 1 (by decide) ?_ ?_
        · simp (config := { maxSteps := 2000000 }) (disch := first | omega | (simp only [qb_in, qkW, qmW, qnW, true_and, and_true, or_self, true_or, or_true, and_self]; done) | (simp only [qb_in, qkW, qmW, qnW, true_and, and_true, or_self, true_or, or_true, and_self]; omega)) only [zD_115, b115_0, b115_5, b115_11, b115_21, b115_30, b115_36, b115_39, b115_42, b115_52, b115_72, b115_82, b115_91, b115_101, b115_104, b115_110, qcall_l, qcall_r, qretn_l, qJ_s, qJ_n, qV0, qEx, ↓qif0, ↓zchk_pos, ↓reduceIte, qput, qWW, qmW, qkW, qnW, if_neg (show ¬ n < 1 by omega), if_neg (show ¬ 8 < n by omega)]
          rw [s1, b115_58]
          simp (config := { maxSteps := 2000000 }) (disch := first | omega | (simp only [K_3 hK, K_4 hK, P_3_0 hP, P_3_0 hP, t1, qb_in, qkW, qmW, qnW, true_and, and_true, or_self, true_or, or_true, and_self]; done) | (simp only [K_3 hK, K_4 hK, P_3_0 hP, P_3_0 hP, t1, qb_in, qkW, qmW, qnW, true_and, and_true, or_self, true_or, or_true, and_self]; omega)) only [b115_0, b115_5, b115_11, b115_21, b115_30, b115_36, b115_39, b115_42, b115_52, b115_58, b115_72, b115_82, b115_91, b115_101, b115_104, b115_110, qcall_l, qcall_r, qretn_l, qJ_s, qJ_n, qV0, qEx, ↓qif0, ↓zchk_pos, ↓reduceIte, qput, qWW, qmW, qkW, qnW, K_3 hK, K_4 hK, P_3_0 hP, P_3_0 hP, t1, q32, if_pos (show 60 < zm S 37 2 + n by omega)]
        · have hKb : qK (zbump S) := hK
          have gb : zm (zbump S) 37 2 = zm S 37 2 := rfl
          simp (config := { maxSteps := 2000000 }) (disch := first | omega | (simp only [qb_in, qkW, qmW, qnW, true_and, and_true, or_self, true_or, or_true, and_self]; done) | (simp only [qb_in, qkW, qmW, qnW, true_and, and_true, or_self, true_or, or_true, and_self]; omega)) only [zD_196, b196_0, b196_7, b196_19, b196_24, b196_30, b196_45, b196_59, b196_63, b196_74, b196_78, b196_79, b196_82, b196_85, b196_87, b196_96, b196_114, b196_128, b196_134, qcall_l, qcall_r, qretn_l, qJ_s, qJ_n, qV0, qEx, ↓qif0, ↓zchk_pos, ↓reduceIte, qput, qWW, qmW, qkW, qnW, hi]
          rw [r1, b196_53]
          simp (config := { maxSteps := 2000000 }) (disch := first | omega | (simp only [K_37 hKb, gb, qb_in, qkW, qmW, qnW, true_and, and_true, or_self, true_or, or_true, and_self]; done) | (simp only [K_37 hKb, gb, qb_in, qkW, qmW, qnW, true_and, and_true, or_self, true_or, or_true, and_self]; omega)) only [b196_0, b196_7, b196_19, b196_24, b196_30, b196_45, b196_53, b196_59, b196_63, b196_74, b196_78, b196_79, b196_82, b196_85, b196_87, b196_96, b196_114, b196_128, b196_134, qcall_l, qcall_r, qretn_l, qJ_s, qJ_n, qV0, qEx, ↓qif0, ↓zchk_pos, ↓reduceIte, qput, qWW, qmW, qkW, qnW, K_37 hKb, gb, q32, if_pos (show 60 < zm S 37 2 + n by omega), hd, Int.reduceEq]
          rfl
    · have hi := r_in e n 1 8 (zbump S) (by omega)
      rw [qb_p hn] at hi
      have s1 := (s_typeCheck e S c n (by omega) hn n.toNat 0 vu (Int.le_refl 0) (by omega)).2 hg
      obtain ⟨y2, r1⟩ := (r_typeCheck e (zbump S) c n (by omega) hn n.toNat 0 vu (Int.le_refl 0) (by omega)).2 hg
      have hd := r_holds e (zbump S) 1 (by omega) hK
      rw [qb_n (by decide)] at hd
      refine bad 0 (by decide) ?_ ?_
      · simp (config := { maxSteps := 2000000 }) (disch := first | omega | (simp only [qb_in, qkW, qmW, qnW, true_and, and_true, or_self, true_or, or_true, and_self]; done) | (simp only [qb_in, qkW, qmW, qnW, true_and, and_true, or_self, true_or, or_true, and_self]; omega)) only [zD_115, b115_0, b115_5, b115_11, b115_21, b115_30, b115_36, b115_39, b115_42, b115_52, b115_72, b115_82, b115_91, b115_101, b115_104, b115_110, qcall_l, qcall_r, qretn_l, qJ_s, qJ_n, qV0, qEx, ↓qif0, ↓zchk_pos, ↓reduceIte, qput, qWW, qmW, qkW, qnW, if_neg (show ¬ n < 1 by omega), if_neg (show ¬ 8 < n by omega)]
        exact s1
      · have hKb : qK (zbump S) := hK
        simp (config := { maxSteps := 2000000 }) (disch := first | omega | (simp only [qb_in, qkW, qmW, qnW, true_and, and_true, or_self, true_or, or_true, and_self]; done) | (simp only [qb_in, qkW, qmW, qnW, true_and, and_true, or_self, true_or, or_true, and_self]; omega)) only [zD_196, b196_0, b196_7, b196_19, b196_24, b196_30, b196_45, b196_59, b196_63, b196_74, b196_78, b196_79, b196_82, b196_85, b196_87, b196_96, b196_114, b196_128, b196_134, qcall_l, qcall_r, qretn_l, qJ_s, qJ_n, qV0, qEx, ↓qif0, ↓zchk_pos, ↓reduceIte, qput, qWW, qmW, qkW, qnW, hi]
        rw [r1, b196_53]
        simp (config := { maxSteps := 2000000 }) (disch := first | omega | (simp only [K_37 hKb, qb_in, qkW, qmW, qnW, true_and, and_true, or_self, true_or, or_true, and_self]; done) | (simp only [K_37 hKb, qb_in, qkW, qmW, qnW, true_and, and_true, or_self, true_or, or_true, and_self]; omega)) only [b196_0, b196_7, b196_19, b196_24, b196_30, b196_45, b196_53, b196_59, b196_63, b196_74, b196_78, b196_79, b196_82, b196_85, b196_87, b196_96, b196_114, b196_128, b196_134, qcall_l, qcall_r, qretn_l, qJ_s, qJ_n, qV0, qEx, ↓qif0, ↓zchk_pos, ↓reduceIte, qput, qWW, qmW, qkW, qnW, K_37 hKb, hd, Int.reduceEq]
        rfl
  · have hi := r_in e n 1 8 (zbump S) (by omega)
    rw [qb_n hn] at hi
    have hd := r_holds e (zbump S) 1 (by omega) hK
    rw [qb_n (by decide)] at hd
    refine bad 0 (by decide) ?_ ?_
    · by_cases c1 : n < 1
      · simp (config := { maxSteps := 2000000 }) (disch := first | omega | (simp only [qb_in, qkW, qmW, qnW, true_and, and_true, or_self, true_or, or_true, and_self]; done) | (simp only [qb_in, qkW, qmW, qnW, true_and, and_true, or_self, true_or, or_true, and_self]; omega)) only [zD_115, b115_0, b115_5, b115_11, b115_21, b115_30, b115_36, b115_39, b115_42, b115_52, b115_58, b115_72, b115_82, b115_91, b115_101, b115_104, b115_110, qcall_l, qcall_r, qretn_l, qJ_s, qJ_n, qV0, qEx, ↓qif0, ↓zchk_pos, ↓reduceIte, qput, qWW, qmW, qkW, qnW, if_pos c1]
      · simp (config := { maxSteps := 2000000 }) (disch := first | omega | (simp only [qb_in, qkW, qmW, qnW, true_and, and_true, or_self, true_or, or_true, and_self]; done) | (simp only [qb_in, qkW, qmW, qnW, true_and, and_true, or_self, true_or, or_true, and_self]; omega)) only [zD_115, b115_0, b115_5, b115_11, b115_21, b115_30, b115_36, b115_39, b115_42, b115_52, b115_58, b115_72, b115_82, b115_91, b115_101, b115_104, b115_110, qcall_l, qcall_r, qretn_l, qJ_s, qJ_n, qV0, qEx, ↓qif0, ↓zchk_pos, ↓reduceIte, qput, qWW, qmW, qkW, qnW, if_neg c1, if_pos (show 8 < n by omega)]
    · have hKb : qK (zbump S) := hK
      simp (config := { maxSteps := 2000000 }) (disch := first | omega | (simp only [qb_in, qkW, qmW, qnW, true_and, and_true, or_self, true_or, or_true, and_self]; done) | (simp only [qb_in, qkW, qmW, qnW, true_and, and_true, or_self, true_or, or_true, and_self]; omega)) only [zD_196, b196_0, b196_7, b196_19, b196_24, b196_30, b196_45, b196_53, b196_59, b196_63, b196_74, b196_78, b196_79, b196_82, b196_85, b196_87, b196_96, b196_114, b196_128, b196_134, qcall_l, qcall_r, qretn_l, qJ_s, qJ_n, qV0, qEx, ↓qif0, ↓zchk_pos, ↓reduceIte, qput, qWW, qmW, qkW, qnW, hi]
      rw [b196_12]
      simp (config := { maxSteps := 2000000 }) (disch := first | omega | (simp only [K_37 hKb, qb_in, qkW, qmW, qnW, true_and, and_true, or_self, true_or, or_true, and_self]; done) | (simp only [K_37 hKb, qb_in, qkW, qmW, qnW, true_and, and_true, or_self, true_or, or_true, and_self]; omega)) only [b196_0, b196_7, b196_19, b196_24, b196_30, b196_45, b196_53, b196_59, b196_63, b196_74, b196_78, b196_79, b196_82, b196_85, b196_87, b196_96, b196_114, b196_128, b196_134, qcall_l, qcall_r, qretn_l, qJ_s, qJ_n, qV0, qEx, ↓qif0, ↓zchk_pos, ↓reduceIte, qput, qWW, qmW, qkW, qnW, K_37 hKb, hd, Int.reduceEq, Int.reduceLT]
      rfl
