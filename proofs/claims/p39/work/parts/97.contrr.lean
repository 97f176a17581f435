/-! A contraction: what the reference checks. -/
abbrev qcok0 (n g p f s : Int) : Prop := (2 ≤ n ∧ n ≤ 6) ∧ (1 ≤ g ∧ g ≤ 3) ∧ (0 ≤ p ∧ p ≤ 4) ∧ qfre f ∧ (s = 0 ∨ qfre s)
theorem r_contrA (e : Nat) (S : zS) (c g p f s n : Int) (he : 2 ≤ e) (hK : qK S) (p1 : zm S 37 2 = n) :
    (qcok0 n g p f s → zF_211 e 0 [vr 37, vi c, vi g, vi p, vi f, vi s, vu, vu, vu, vu] [] S = zF_211 e 62 [vr 37, vi c, vi g, vi p, vi f, vi s, vi 1, vi 0, vu, vu] [] S) ∧
    (¬ qcok0 n g p f s → zF_211 e 0 [vr 37, vi c, vi g, vi p, vi f, vi s, vu, vu, vu, vu] [] S = zF_211 e 62 [vr 37, vi c, vi g, vi p, vi f, vi s, vi 0, vi 0, vu, vu] [] S) := by
  have h1 := r_in e n 2 6 S (by omega)
  have h2 := r_in e g 1 3 S (by omega)
  have h3 := r_in e p 0 4 S (by omega)
  have h4 := r_isFree e S f he
  have h5 := r_isFree e S s he
  by_cases c1 : 2 ≤ n ∧ n ≤ 6
  · rw [qb_p c1] at h1
    by_cases c2 : 1 ≤ g ∧ g ≤ 3
    · rw [qb_p c2] at h2
      by_cases c3 : 0 ≤ p ∧ p ≤ 4
      · rw [qb_p c3] at h3
        by_cases c4 : qfre f
        · rw [qb_p c4] at h4
          by_cases c5 : s = 0
          · refine ⟨fun _ => ?_, fun z => absurd ⟨c1, c2, c3, c4, Or.inl c5⟩ z⟩
            simp (config := { maxSteps := 2000000 }) (disch := first | omega | (simp only [K_37 hK, qb_in, qkW, qmW, qnW, true_and, and_true, or_self, true_or, or_true, and_self]; done) | (simp only [K_37 hK, qb_in, qkW, qmW, qnW, true_and, and_true, or_self, true_or, or_true, and_self]; omega)) only [zD_211, b211_0, b211_10, b211_13, b211_19, b211_22, b211_28, b211_31, b211_36, b211_39, b211_44, b211_49, b211_52, b211_56, b211_57, b211_71, b211_76, b211_86, b211_89, b211_93, b211_94, b211_102, b211_107, b211_115, b211_119, b211_124, b211_128, b211_139, b211_144, b211_147, b211_151, b211_152, b211_155, b211_158, b211_160, b211_174, b211_185, b211_203, b211_211, b211_221, b211_237, b211_255, b211_267, qcall_l, qcall_r, qretn_l, qJ_s, qJ_n, qV0, qEx, ↓qif0, ↓zchk_pos, ↓reduceIte, qput, qWW, qmW, qkW, qnW, K_37 hK, p1, h1, h2, h3, h4, if_pos c5, Int.reduceEq]
          · by_cases c6 : qfre s
            · rw [qb_p c6] at h5
              refine ⟨fun _ => ?_, fun z => absurd ⟨c1, c2, c3, c4, Or.inr c6⟩ z⟩
              simp (config := { maxSteps := 2000000 }) (disch := first | omega | (simp only [K_37 hK, qb_in, qkW, qmW, qnW, true_and, and_true, or_self, true_or, or_true, and_self]; done) | (simp only [K_37 hK, qb_in, qkW, qmW, qnW, true_and, and_true, or_self, true_or, or_true, and_self]; omega)) only [zD_211, b211_0, b211_10, b211_13, b211_19, b211_22, b211_28, b211_31, b211_36, b211_39, b211_44, b211_49, b211_52, b211_56, b211_57, b211_71, b211_76, b211_86, b211_89, b211_93, b211_94, b211_102, b211_107, b211_115, b211_119, b211_124, b211_128, b211_139, b211_144, b211_147, b211_151, b211_152, b211_155, b211_158, b211_160, b211_174, b211_185, b211_203, b211_211, b211_221, b211_237, b211_255, b211_267, qcall_l, qcall_r, qretn_l, qJ_s, qJ_n, qV0, qEx, ↓qif0, ↓zchk_pos, ↓reduceIte, qput, qWW, qmW, qkW, qnW, K_37 hK, p1, h1, h2, h3, h4, if_neg c5, h5, Int.reduceEq]
            · rw [qb_n c6] at h5
              refine ⟨fun z => absurd z.2.2.2.2 (fun y => y.elim c5 c6), fun _ => ?_⟩
              simp (config := { maxSteps := 2000000 }) (disch := first | omega | (simp only [K_37 hK, qb_in, qkW, qmW, qnW, true_and, and_true, or_self, true_or, or_true, and_self]; done) | (simp only [K_37 hK, qb_in, qkW, qmW, qnW, true_and, and_true, or_self, true_or, or_true, and_self]; omega)) only [zD_211, b211_0, b211_10, b211_13, b211_19, b211_22, b211_28, b211_31, b211_36, b211_39, b211_44, b211_49, b211_52, b211_56, b211_57, b211_71, b211_76, b211_86, b211_89, b211_93, b211_94, b211_102, b211_107, b211_115, b211_119, b211_124, b211_128, b211_139, b211_144, b211_147, b211_151, b211_152, b211_155, b211_158, b211_160, b211_174, b211_185, b211_203, b211_211, b211_221, b211_237, b211_255, b211_267, qcall_l, qcall_r, qretn_l, qJ_s, qJ_n, qV0, qEx, ↓qif0, ↓zchk_pos, ↓reduceIte, qput, qWW, qmW, qkW, qnW, K_37 hK, p1, h1, h2, h3, h4, if_neg c5, h5, Int.reduceEq]
        · rw [qb_n c4] at h4
          refine ⟨fun z => absurd z.2.2.2.1 c4, fun _ => ?_⟩
          simp (config := { maxSteps := 2000000 }) (disch := first | omega | (simp only [K_37 hK, qb_in, qkW, qmW, qnW, true_and, and_true, or_self, true_or, or_true, and_self]; done) | (simp only [K_37 hK, qb_in, qkW, qmW, qnW, true_and, and_true, or_self, true_or, or_true, and_self]; omega)) only [zD_211, b211_0, b211_10, b211_13, b211_19, b211_22, b211_28, b211_31, b211_36, b211_39, b211_44, b211_49, b211_52, b211_56, b211_57, b211_71, b211_76, b211_86, b211_89, b211_93, b211_94, b211_102, b211_107, b211_115, b211_119, b211_124, b211_128, b211_139, b211_144, b211_147, b211_151, b211_152, b211_155, b211_158, b211_160, b211_174, b211_185, b211_203, b211_211, b211_221, b211_237, b211_255, b211_267, qcall_l, qcall_r, qretn_l, qJ_s, qJ_n, qV0, qEx, ↓qif0, ↓zchk_pos, ↓reduceIte, qput, qWW, qmW, qkW, qnW, K_37 hK, p1, h1, h2, h3, h4, Int.reduceEq]
      · rw [qb_n c3] at h3
        refine ⟨fun z => absurd z.2.2.1 c3, fun _ => ?_⟩
        simp (config := { maxSteps := 2000000 }) (disch := first | omega | (simp only [K_37 hK, qb_in, qkW, qmW, qnW, true_and, and_true, or_self, true_or, or_true, and_self]; done) | (simp only [K_37 hK, qb_in, qkW, qmW, qnW, true_and, and_true, or_self, true_or, or_true, and_self]; omega)) only [zD_211, b211_0, b211_10, b211_13, b211_19, b211_22, b211_28, b211_31, b211_36, b211_39, b211_44, b211_49, b211_52, b211_56, b211_57, b211_71, b211_76, b211_86, b211_89, b211_93, b211_94, b211_102, b211_107, b211_115, b211_119, b211_124, b211_128, b211_139, b211_144, b211_147, b211_151, b211_152, b211_155, b211_158, b211_160, b211_174, b211_185, b211_203, b211_211, b211_221, b211_237, b211_255, b211_267, qcall_l, qcall_r, qretn_l, qJ_s, qJ_n, qV0, qEx, ↓qif0, ↓zchk_pos, ↓reduceIte, qput, qWW, qmW, qkW, qnW, K_37 hK, p1, h1, h2, h3, Int.reduceEq]
    · rw [qb_n c2] at h2
      refine ⟨fun z => absurd z.2.1 c2, fun _ => ?_⟩
      simp (config := { maxSteps := 2000000 }) (disch := first | omega | (simp only [K_37 hK, qb_in, qkW, qmW, qnW, true_and, and_true, or_self, true_or, or_true, and_self]; done) | (simp only [K_37 hK, qb_in, qkW, qmW, qnW, true_and, and_true, or_self, true_or, or_true, and_self]; omega)) only [zD_211, b211_0, b211_10, b211_13, b211_19, b211_22, b211_28, b211_31, b211_36, b211_39, b211_44, b211_49, b211_52, b211_56, b211_57, b211_71, b211_76, b211_86, b211_89, b211_93, b211_94, b211_102, b211_107, b211_115, b211_119, b211_124, b211_128, b211_139, b211_144, b211_147, b211_151, b211_152, b211_155, b211_158, b211_160, b211_174, b211_185, b211_203, b211_211, b211_221, b211_237, b211_255, b211_267, qcall_l, qcall_r, qretn_l, qJ_s, qJ_n, qV0, qEx, ↓qif0, ↓zchk_pos, ↓reduceIte, qput, qWW, qmW, qkW, qnW, K_37 hK, p1, h1, h2, Int.reduceEq]
  · rw [qb_n c1] at h1
    refine ⟨fun z => absurd z.1 c1, fun _ => ?_⟩
    simp (config := { maxSteps := 2000000 }) (disch := first | omega | (simp only [K_37 hK, qb_in, qkW, qmW, qnW, true_and, and_true, or_self, true_or, or_true, and_self]; done) | (simp only [K_37 hK, qb_in, qkW, qmW, qnW, true_and, and_true, or_self, true_or, or_true, and_self]; omega)) only [zD_211, b211_0, b211_10, b211_13, b211_19, b211_22, b211_28, b211_31, b211_36, b211_39, b211_44, b211_49, b211_52, b211_56, b211_57, b211_71, b211_76, b211_86, b211_89, b211_93, b211_94, b211_102, b211_107, b211_115, b211_119, b211_124, b211_128, b211_139, b211_144, b211_147, b211_151, b211_152, b211_155, b211_158, b211_160, b211_174, b211_185, b211_203, b211_211, b211_221, b211_237, b211_255, b211_267, qcall_l, qcall_r, qretn_l, qJ_s, qJ_n, qV0, qEx, ↓qif0, ↓zchk_pos, ↓reduceIte, qput, qWW, qmW, qkW, qnW, K_37 hK, p1, h1, Int.reduceEq]
theorem r_contrB (e : Nat) (S : zS) (c g p f s n : Int) (t : Int → Int) (he : 2 ≤ e) (hK : qK S) (hP : qP (zm S)) (p1 : zm S 37 2 = n) (p5 : zm S 38 = t) (hn : 0 ≤ n ∧ n ≤ 60) : ∀ (k : Nat) (i F : Int) (x8 x9 : zV), 0 ≤ i → i + k = n → (F = 0 ∨ F = 1) →
    ((F = 1 ∧ ∀ j, i ≤ j → j < n → qsm (t j)) → zF_211 e 62 [vr 37, vi c, vi g, vi p, vi f, vi s, vi F, vi i, x8, x9] [] S = zF_211 e 102 [vr 37, vi c, vi g, vi p, vi f, vi s, vi 1, vi n, vu, vu] [] S) ∧
    (¬ (F = 1 ∧ ∀ j, i ≤ j → j < n → qsm (t j)) → zF_211 e 62 [vr 37, vi c, vi g, vi p, vi f, vi s, vi F, vi i, x8, x9] [] S = zF_211 e 102 [vr 37, vi c, vi g, vi p, vi f, vi s, vi 0, vi n, vu, vu] [] S) := by
  intro k
  induction k with
  | zero =>
    intro i F x8 x9 hi hin hF
    have hi2 : i = n := by omega
    subst hi2
    have st : zF_211 e 62 [vr 37, vi c, vi g, vi p, vi f, vi s, vi F, vi i, x8, x9] [] S = zF_211 e 102 [vr 37, vi c, vi g, vi p, vi f, vi s, vi F, vi i, vu, vu] [] S := by
      rw [b211_62]
      simp (config := { maxSteps := 2000000 }) (disch := first | omega | (simp only [K_37 hK, qb_in, qkW, qmW, qnW, true_and, and_true, or_self, true_or, or_true, and_self]; done) | (simp only [K_37 hK, qb_in, qkW, qmW, qnW, true_and, and_true, or_self, true_or, or_true, and_self]; omega)) only [b211_0, b211_10, b211_13, b211_19, b211_22, b211_28, b211_31, b211_36, b211_39, b211_44, b211_49, b211_52, b211_56, b211_57, b211_71, b211_76, b211_86, b211_89, b211_93, b211_94, b211_107, b211_115, b211_119, b211_124, b211_128, b211_139, b211_144, b211_147, b211_151, b211_152, b211_155, b211_158, b211_160, b211_174, b211_185, b211_203, b211_211, b211_221, b211_237, b211_255, b211_267, qcall_l, qcall_r, qretn_l, qJ_s, qJ_n, qV0, qEx, ↓qif0, ↓zchk_pos, ↓reduceIte, qput, qWW, qmW, qkW, qnW, K_37 hK, p1, Int.lt_irrefl]
    rw [st]
    refine ⟨fun z => by rw [z.1], fun z => ?_⟩
    have : F = 0 := hF.resolve_right fun y => z ⟨y, fun j j1 j2 => by omega⟩
    rw [this]
  | succ k ih =>
    intro i F x8 x9 hi hin hF
    rcases hF with rfl | rfl
    · have r := (ih (i + 1) 0 vu vu (by omega) (by omega) (Or.inl rfl)).2 (fun z => absurd z.1 (by decide))
      refine ⟨fun z => absurd z.1 (by decide), fun _ => ?_⟩
      rw [b211_62]
      simp (config := { maxSteps := 2000000 }) (disch := first | omega | (simp only [K_37 hK, qb_in, qkW, qmW, qnW, true_and, and_true, or_self, true_or, or_true, and_self]; done) | (simp only [K_37 hK, qb_in, qkW, qmW, qnW, true_and, and_true, or_self, true_or, or_true, and_self]; omega)) only [b211_0, b211_10, b211_13, b211_19, b211_22, b211_28, b211_31, b211_36, b211_39, b211_44, b211_49, b211_52, b211_56, b211_57, b211_71, b211_76, b211_86, b211_89, b211_93, b211_94, b211_107, b211_115, b211_119, b211_124, b211_128, b211_139, b211_144, b211_147, b211_151, b211_152, b211_155, b211_158, b211_160, b211_174, b211_185, b211_203, b211_211, b211_221, b211_237, b211_255, b211_267, qcall_l, qcall_r, qretn_l, qJ_s, qJ_n, qV0, qEx, ↓qif0, ↓zchk_pos, ↓reduceIte, qput, qWW, qmW, qkW, qnW, K_37 hK, p1, if_pos (show i < n by omega), q32, Int.reduceEq]
      exact r
    · have sm := r_isSmall e (t i) S he
      by_cases q : qsm (t i)
      · rw [qb_p q] at sm
        obtain ⟨r1, r2⟩ := ih (i + 1) 1 vu vu (by omega) (by omega) (Or.inr rfl)
        have st : zF_211 e 62 [vr 37, vi c, vi g, vi p, vi f, vi s, vi 1, vi i, x8, x9] [] S = zF_211 e 62 [vr 37, vi c, vi g, vi p, vi f, vi s, vi 1, vi (i + 1), vu, vu] [] S := by
          rw [b211_62]
          simp (config := { maxSteps := 2000000 }) (disch := first | omega | (simp only [K_37 hK, K_38 hK, P_37_1 hP, qb_in, qkW, qmW, qnW, true_and, and_true, or_self, true_or, or_true, and_self]; done) | (simp only [K_37 hK, K_38 hK, P_37_1 hP, qb_in, qkW, qmW, qnW, true_and, and_true, or_self, true_or, or_true, and_self]; omega)) only [b211_0, b211_10, b211_13, b211_19, b211_22, b211_28, b211_31, b211_36, b211_39, b211_44, b211_49, b211_52, b211_56, b211_57, b211_71, b211_76, b211_86, b211_89, b211_93, b211_94, b211_107, b211_115, b211_119, b211_124, b211_128, b211_139, b211_144, b211_147, b211_151, b211_152, b211_155, b211_158, b211_160, b211_174, b211_185, b211_203, b211_211, b211_221, b211_237, b211_255, b211_267, qcall_l, qcall_r, qretn_l, qJ_s, qJ_n, qV0, qEx, ↓qif0, ↓zchk_pos, ↓reduceIte, qput, qWW, qmW, qkW, qnW, K_37 hK, p1, p5, K_38 hK, P_37_1 hP, if_pos (show i < n by omega), sm, q32, Int.reduceEq]
        rw [st]
        refine ⟨fun z => r1 ⟨rfl, fun j j1 j2 => z.2 j (by omega) j2⟩, fun z => r2 fun w => z ⟨rfl, fun j j1 j2 => ?_⟩⟩
        by_cases w2 : j = i
        · rw [w2]; exact q
        · exact w.2 j (by omega) j2
      · rw [qb_n q] at sm
        have r := (ih (i + 1) 0 vu vu (by omega) (by omega) (Or.inl rfl)).2 (fun z => absurd z.1 (by decide))
        refine ⟨fun z => absurd (z.2 i (Int.le_refl i) (by omega)) q, fun _ => ?_⟩
        rw [b211_62]
        simp (config := { maxSteps := 2000000 }) (disch := first | omega | (simp only [K_37 hK, K_38 hK, P_37_1 hP, qb_in, qkW, qmW, qnW, true_and, and_true, or_self, true_or, or_true, and_self]; done) | (simp only [K_37 hK, K_38 hK, P_37_1 hP, qb_in, qkW, qmW, qnW, true_and, and_true, or_self, true_or, or_true, and_self]; omega)) only [b211_0, b211_10, b211_13, b211_19, b211_22, b211_28, b211_31, b211_36, b211_39, b211_44, b211_49, b211_52, b211_56, b211_57, b211_71, b211_76, b211_86, b211_89, b211_93, b211_94, b211_107, b211_115, b211_119, b211_124, b211_128, b211_139, b211_144, b211_147, b211_151, b211_152, b211_155, b211_158, b211_160, b211_174, b211_185, b211_203, b211_211, b211_221, b211_237, b211_255, b211_267, qcall_l, qcall_r, qretn_l, qJ_s, qJ_n, qV0, qEx, ↓qif0, ↓zchk_pos, ↓reduceIte, qput, qWW, qmW, qkW, qnW, K_37 hK, p1, p5, K_38 hK, P_37_1 hP, if_pos (show i < n by omega), sm, q32, Int.reduceEq]
        exact r
/-- what is wrong with a contraction, as the reference says it -/
theorem r_contrCheck (e : Nat) (S : zS) (c g p f s n : Int) (t : Int → Int) (he : 2 ≤ e) (hK : qK S) (hP : qP (zm S)) (p1 : zm S 37 2 = n) (p5 : zm S 38 = t) (hn : 0 ≤ n ∧ n ≤ 60) :
    (qcok0 n g p f s ∧ qslt t n → zF_211 e 0 [vr 37, vi c, vi g, vi p, vi f, vi s, vu, vu, vu, vu] [] S = zF_211 e 102 [vr 37, vi c, vi g, vi p, vi f, vi s, vi 1, vi n, vu, vu] [] S) ∧
    (¬ (qcok0 n g p f s ∧ qslt t n) → zF_211 e 0 [vr 37, vi c, vi g, vi p, vi f, vi s, vu, vu, vu, vu] [] S = zF_211 e 102 [vr 37, vi c, vi g, vi p, vi f, vi s, vi 0, vi n, vu, vu] [] S) := by
  obtain ⟨a1, a2⟩ := r_contrA e S c g p f s n he hK p1
  by_cases q : qcok0 n g p f s
  · obtain ⟨b1, b2⟩ := r_contrB e S c g p f s n t he hK hP p1 p5 hn n.toNat 0 1 vu vu (Int.le_refl 0) (by omega) (Or.inr rfl)
    rw [a1 q]
    exact ⟨fun z => b1 ⟨rfl, z.2⟩, fun z => b2 fun w => z ⟨q, w.2⟩⟩
  · obtain ⟨b1, b2⟩ := r_contrB e S c g p f s n t he hK hP p1 p5 hn n.toNat 0 0 vu vu (Int.le_refl 0) (by omega) (Or.inl rfl)
    rw [a2 q]
    exact ⟨fun z => absurd z.1 q, fun z => b2 fun w => absurd w.1 (by decide)⟩
