/-! Felt cells are gathered and read: the reference. -/
theorem r_feltOf (d : Nat) (S : zS) (k b t j i l0 pl sp p q c : Int) (h : 3 ≤ d) (hK : qK S) (hP : qP (zm S)) (hk : 0 ≤ k ∧ k < 20) (h82 : zm S 82 k = b) (hb : 0 ≤ b ∧ b < 4) (h52 : zm S 52 b = t) (tr : 3 ≤ t ∧ t ≤ 25) (hj : 0 ≤ j ∧ j < 80) (h73 : zm S 73 j = l0) (h74 : zm S 74 j = pl) (h77 : zm S 77 j = sp) (hl : (if i < sp then l0 else l0 + 1) = p * (t - 1) + q) (hq : 0 ≤ q ∧ q < t - 1) (hp : 0 ≤ p ∧ p < 121) (hc : (if i < sp then pl + i else i - sp) = c) (hcr : 0 ≤ c ∧ c < 40) (hr : (p * t + (q + 1)) * 40 + 40 ≤ 16000) :
    zD d 282 [vr 37, vi k, vi j, vi i] S = some (.inl (some (vi (if zm S 85 (160 * k + p) = 0 then zm S 89 (40 * (p * t + (q + 1)) + c) else 0))), S) := by
  obtain ⟨e, rfl, he⟩ := qd h
  have fa := r_feltAt e S k b t p (q + 1) c (by omega) hK hP hk h82 hb h52 tr hp ⟨by omega, by omega⟩ hcr hr
  obtain ⟨v, hv⟩ : ∃ v, (if zm S 85 (160 * k + p) = 0 then zm S 89 (40 * (p * t + (q + 1)) + c) else 0) = v := ⟨_, rfl⟩
  rw [hv] at fa ⊢
  have p66 := P_37_66 hP
  have p20 := P_37_20 hP
  have p59 := P_37_59 hP
  have p55 := P_37_55 hP
  have p56 := P_37_56 hP
  have z0 : z32 (t - 1) = t - 1 := q32 (by omega)
  have e1 : p * (t - 1) = p * t - p := by rw [Int.mul_sub, Int.mul_one]
  have e0 : 0 ≤ p * (t - 1) := Int.mul_nonneg hp.1 (by omega)
  obtain ⟨X, hX⟩ : ∃ X, p * (t - 1) + q = X := ⟨_, rfl⟩
  have Xr : 0 ≤ X ∧ X ≤ 1000 := by omega
  have td : Int.tdiv X (t - 1) = p := by
    rw [Int.tdiv_eq_ediv_of_nonneg Xr.1, ← hX]
    exact (qdmod ⟨hq.1, hq.2⟩).2
  have tm : Int.tmod X (t - 1) = q := by
    rw [Int.tmod_eq_emod_of_nonneg Xr.1, ← hX]
    exact (qdmod ⟨hq.1, hq.2⟩).1
  have z1 : z32 p = p := q32 (by omega)
  have z2 : z32 (1 + q) = q + 1 := by rw [q32 (by omega)]; omega
  have t0 : t - 1 ≠ 0 := by omega
  rw [hX] at hl
  have hk0 := hk.1
  have hk1 := hk.2
  have hj0 := hj.1
  have hj1 := hj.2
  have hb0 := hb.1
  have hb1 := hb.2
  have t6 := K_37 hK
  have t82 := K_82 hK
  have t52 := K_52 hK
  have t77 := K_77 hK
  have t73 := K_73 hK
  have t74 := K_74 hK
  clear hr e1 e0 hX hq hp hP hK tr hk hj hb
  by_cases c1 : i < sp
  · rw [if_pos c1] at hl hc
    subst hl
    have z3 : z32 (l0 + 0) = l0 := by rw [q32 (by omega)]; omega
    have z4 : z32 (pl + i) = c := by rw [q32 (by omega)]; exact hc
    simp (config := { maxSteps := 2000000 }) (disch := first | omega | (simp only [t6, t82, t52, t77, t73, t74, p66, p20, p59, p55, p56, h82, t0, z3, ne_eq, not_false_eq_true, hk0, hk1, hj0, hj1, hb0, hb1, qb_in, qkW, qmW, qnW, true_and, and_true, or_self, true_or, or_true, and_self]; done) | (simp only [t6, t82, t52, t77, t73, t74, p66, p20, p59, p55, p56, h82, t0, z3, ne_eq, not_false_eq_true, hk0, hk1, hj0, hj1, hb0, hb1, qb_in, qkW, qmW, qnW, true_and, and_true, or_self, true_or, or_true, and_self]; omega)) only [zD_282, b282_0, b282_15, b282_25, b282_29, b282_30, b282_43, b282_47, b282_48, b282_63, b282_70, b282_81, b282_89, b282_92, qcall_l, qcall_r, qretn_l, qJ_s, qJ_n, qV0, qEx, ↓qif0, ↓zchk_pos, ↓reduceIte, qput, qWW, qmW, qkW, qnW, t6, t82, t52, t77, t73, t74, p66, p20, p59, p55, p56, h82, h52, h73, h74, h77, z0, if_pos c1, z3, td, tm, z1, z2, z4, fa, Int.reduceEq]
  · rw [if_neg c1] at hl hc
    have z3 : z32 (l0 + 1) = X := by rw [q32 (by omega)]; exact hl
    have z4 : z32 (i - sp) = c := by rw [q32 (by omega)]; exact hc
    simp (config := { maxSteps := 2000000 }) (disch := first | omega | (simp only [t6, t82, t52, t77, t73, t74, p66, p20, p59, p55, p56, h82, t0, z3, ne_eq, not_false_eq_true, hk0, hk1, hj0, hj1, hb0, hb1, qb_in, qkW, qmW, qnW, true_and, and_true, or_self, true_or, or_true, and_self]; done) | (simp only [t6, t82, t52, t77, t73, t74, p66, p20, p59, p55, p56, h82, t0, z3, ne_eq, not_false_eq_true, hk0, hk1, hj0, hj1, hb0, hb1, qb_in, qkW, qmW, qnW, true_and, and_true, or_self, true_or, or_true, and_self]; omega)) only [zD_282, b282_0, b282_15, b282_25, b282_29, b282_30, b282_43, b282_47, b282_48, b282_63, b282_70, b282_81, b282_89, b282_92, qcall_l, qcall_r, qretn_l, qJ_s, qJ_n, qV0, qEx, ↓qif0, ↓zchk_pos, ↓reduceIte, qput, qWW, qmW, qkW, qnW, t6, t82, t52, t77, t73, t74, p66, p20, p59, p55, p56, h82, h52, h73, h74, h77, z0, if_neg c1, z3, td, tm, z1, z2, z4, fa, Int.reduceEq]
theorem r_asLoop (e : Nat) (S : zS) (k j b n : Int) (F : Int → Int) (hK : qK S) (hP : qP (zm S)) (hn : n ≤ 16) (hF : ∀ m, qfr [67] [] (zm S) m → ∀ i, 0 ≤ i → i < n → zD e 282 [vr 37, vi k, vi j, vi i] (qW S m) = some (.inl (some (vi (F i))), qW S m)) :
    ∀ (f : Nat) (i : Int) (m : Int → Int → Int) (y6 y7 y8 : zV), 0 ≤ i → i + f = n → qfr [67] [] (zm S) m → (∀ q, 0 ≤ q → q < i → m 67 q = F q) →
      ∃ m', zF_284 e 22 [vr 37, vi k, vi j, vi b, vi n, vi i, y6, y7, y8] [] (qW S m) = zF_284 e 50 [vr 37, vi k, vi j, vi b, vi n, vi n, vu, vu, vu] [] (qW S m') ∧ qfr [67] [] (zm S) m' ∧ ∀ q, 0 ≤ q → q < n → m' 67 q = F q := by
  intro f
  induction f with
  | zero =>
    intro i m y6 y7 y8 h1 h2 hf hv
    refine ⟨m, ?_, hf, fun q q1 q2 => hv q q1 (by omega)⟩
    obtain rfl : i = n := by omega
    rw [b284_22]
    simp (config := { maxSteps := 2000000 }) (disch := first | omega | (simp only [qb_in, qkW, qmW, qnW, true_and, and_true, or_self, true_or, or_true, and_self]; done) | (simp only [qb_in, qkW, qmW, qnW, true_and, and_true, or_self, true_or, or_true, and_self]; omega)) only [b284_0, b284_13, b284_29, b284_43, b284_61, b284_65, b284_66, b284_74, b284_78, b284_79, b284_86, b284_90, b284_91, b284_102, b284_109, b284_121, b284_130, b284_139, b284_151, b284_154, b284_158, b284_159, b284_166, b284_171, b284_183, b284_186, b284_187, b284_194, b284_203, b284_211, b284_217, b284_225, b284_229, b284_230, b284_237, b284_245, b284_252, b284_254, b284_269, b284_272, b284_276, b284_277, qcall_l, qcall_r, qretn_l, qJ_s, qJ_n, qV0, qEx, ↓qif0, ↓zchk_pos, ↓reduceIte, qput, qWW, qmW, qkW, qnW, if_neg (Int.lt_irrefl i)]
  | succ f ih =>
    intro i m y6 y7 y8 h1 h2 hf hv
    have e44 : m 37 44 = 67 := by rw [hf.2 44 (by decide)]; exact P_37_44 hP
    have fo := hF m hf i h1 (by omega)
    have z1 : z32 (i + 1) = i + 1 := q32 (by omega)
    obtain ⟨m', r, q⟩ := ih (i + 1) (qu m 67 i (F i)) vu vu vu (by omega) (by omega) (qfr_t' hf (qfr_a m 67 i (F i) (by decide) (by decide)) (fun _ h => h) (fun _ h => h)) (fun q q1 q2 => by
      rw [qu_row]
      show (if q = i then F i else m 67 q) = _
      by_cases c : q = i
      · rw [if_pos c, c]
      · rw [if_neg c]
        exact hv q q1 (by omega))
    refine ⟨m', ?_, q⟩
    have i16 : i < 16 := by omega
    rw [b284_22]
    simp (config := { maxSteps := 2000000 }) (disch := first | omega | (simp only [K_37 hK, K_67 hK, e44, h1, i16, qb_in, qkW, qmW, qnW, true_and, and_true, or_self, true_or, or_true, and_self]; done) | (simp only [K_37 hK, K_67 hK, e44, h1, i16, qb_in, qkW, qmW, qnW, true_and, and_true, or_self, true_or, or_true, and_self]; omega)) only [b284_0, b284_13, b284_29, b284_43, b284_61, b284_65, b284_66, b284_74, b284_78, b284_79, b284_86, b284_90, b284_91, b284_102, b284_109, b284_121, b284_130, b284_139, b284_151, b284_154, b284_158, b284_159, b284_166, b284_171, b284_183, b284_186, b284_187, b284_194, b284_203, b284_211, b284_217, b284_225, b284_229, b284_230, b284_237, b284_245, b284_252, b284_254, b284_269, b284_272, b284_276, b284_277, qcall_l, qcall_r, qretn_l, qJ_s, qJ_n, qV0, qEx, ↓qif0, ↓zchk_pos, ↓reduceIte, qput, qWW, qmW, qkW, qnW, K_37 hK, K_67 hK, if_pos (show i < n by omega), e44, fo, z1]
    exact r
theorem r_asA (e : Nat) (S : zS) (b st : Int) (L : List Int) (y1 y2 y5 y6 y7 y8 : zV) (hK : qK S) (hP : qP (zm S)) (hk : qA (zm S) 67 L) (hl : 0 < L.length) (h32 : zm S 37 32 = st) :
    zF_284 e 50 [vr 37, y1, y2, vi b, vi L.length, y5, y6, y7, y8] [] S = zF_284 e 96 [vr 37, vu, vu, vi b, vi L.length, vi (qys L), vi (if qys L = st then 1 else 0), vi 0, vu] [] S := by
  have v0 := qA_n hk 0 (Int.le_refl _) (by omega)
  have p44 := P_37_44 hP
  unfold qys
  rw [b284_50]
  by_cases c : qnth L 0 = 40
  · rw [if_pos c]
    by_cases c2 : 1 = st
    · rw [if_pos c2]
      simp (config := { maxSteps := 2000000 }) (disch := first | omega | (simp only [K_37 hK, K_67 hK, p44, Int.reduceLE, Int.reduceLT, qb_in, qkW, qmW, qnW, true_and, and_true, or_self, true_or, or_true, and_self]; done) | (simp only [K_37 hK, K_67 hK, p44, Int.reduceLE, Int.reduceLT, qb_in, qkW, qmW, qnW, true_and, and_true, or_self, true_or, or_true, and_self]; omega)) only [b284_0, b284_13, b284_29, b284_43, b284_50, b284_61, b284_65, b284_66, b284_74, b284_78, b284_79, b284_86, b284_90, b284_91, b284_102, b284_109, b284_121, b284_130, b284_139, b284_151, b284_154, b284_158, b284_159, b284_166, b284_171, b284_183, b284_186, b284_187, b284_194, b284_203, b284_211, b284_217, b284_225, b284_229, b284_230, b284_237, b284_245, b284_252, b284_254, b284_269, b284_272, b284_276, b284_277, qcall_l, qcall_r, qretn_l, qJ_s, qJ_n, qV0, qEx, ↓qif0, ↓zchk_pos, ↓reduceIte, qput, qWW, qmW, qkW, qnW, K_37 hK, K_67 hK, p44, v0, if_pos c, h32, if_pos c2, Int.reduceEq]
    · rw [if_neg c2]
      simp (config := { maxSteps := 2000000 }) (disch := first | omega | (simp only [K_37 hK, K_67 hK, p44, Int.reduceLE, Int.reduceLT, qb_in, qkW, qmW, qnW, true_and, and_true, or_self, true_or, or_true, and_self]; done) | (simp only [K_37 hK, K_67 hK, p44, Int.reduceLE, Int.reduceLT, qb_in, qkW, qmW, qnW, true_and, and_true, or_self, true_or, or_true, and_self]; omega)) only [b284_0, b284_13, b284_29, b284_43, b284_50, b284_61, b284_65, b284_66, b284_74, b284_78, b284_79, b284_86, b284_90, b284_91, b284_102, b284_109, b284_121, b284_130, b284_139, b284_151, b284_154, b284_158, b284_159, b284_166, b284_171, b284_183, b284_186, b284_187, b284_194, b284_203, b284_211, b284_217, b284_225, b284_229, b284_230, b284_237, b284_245, b284_252, b284_254, b284_269, b284_272, b284_276, b284_277, qcall_l, qcall_r, qretn_l, qJ_s, qJ_n, qV0, qEx, ↓qif0, ↓zchk_pos, ↓reduceIte, qput, qWW, qmW, qkW, qnW, K_37 hK, K_67 hK, p44, v0, if_pos c, h32, if_neg c2, Int.reduceEq]
  · rw [if_neg c]
    by_cases c2 : 0 = st
    · rw [if_pos c2]
      simp (config := { maxSteps := 2000000 }) (disch := first | omega | (simp only [K_37 hK, K_67 hK, p44, Int.reduceLE, Int.reduceLT, qb_in, qkW, qmW, qnW, true_and, and_true, or_self, true_or, or_true, and_self]; done) | (simp only [K_37 hK, K_67 hK, p44, Int.reduceLE, Int.reduceLT, qb_in, qkW, qmW, qnW, true_and, and_true, or_self, true_or, or_true, and_self]; omega)) only [b284_0, b284_13, b284_29, b284_43, b284_50, b284_61, b284_65, b284_66, b284_74, b284_78, b284_79, b284_86, b284_90, b284_91, b284_102, b284_109, b284_121, b284_130, b284_139, b284_151, b284_154, b284_158, b284_159, b284_166, b284_171, b284_183, b284_186, b284_187, b284_194, b284_203, b284_211, b284_217, b284_225, b284_229, b284_230, b284_237, b284_245, b284_252, b284_254, b284_269, b284_272, b284_276, b284_277, qcall_l, qcall_r, qretn_l, qJ_s, qJ_n, qV0, qEx, ↓qif0, ↓zchk_pos, ↓reduceIte, qput, qWW, qmW, qkW, qnW, K_37 hK, K_67 hK, p44, v0, if_neg c, h32, if_pos c2, Int.reduceEq]
    · rw [if_neg c2]
      simp (config := { maxSteps := 2000000 }) (disch := first | omega | (simp only [K_37 hK, K_67 hK, p44, Int.reduceLE, Int.reduceLT, qb_in, qkW, qmW, qnW, true_and, and_true, or_self, true_or, or_true, and_self]; done) | (simp only [K_37 hK, K_67 hK, p44, Int.reduceLE, Int.reduceLT, qb_in, qkW, qmW, qnW, true_and, and_true, or_self, true_or, or_true, and_self]; omega)) only [b284_0, b284_13, b284_29, b284_43, b284_50, b284_61, b284_65, b284_66, b284_74, b284_78, b284_79, b284_86, b284_90, b284_91, b284_102, b284_109, b284_121, b284_130, b284_139, b284_151, b284_154, b284_158, b284_159, b284_166, b284_171, b284_183, b284_186, b284_187, b284_194, b284_203, b284_211, b284_217, b284_225, b284_229, b284_230, b284_237, b284_245, b284_252, b284_254, b284_269, b284_272, b284_276, b284_277, qcall_l, qcall_r, qretn_l, qJ_s, qJ_n, qV0, qEx, ↓qif0, ↓zchk_pos, ↓reduceIte, qput, qWW, qmW, qkW, qnW, K_37 hK, K_67 hK, p44, v0, if_neg c, h32, if_neg c2, Int.reduceEq]
theorem r_asG (e : Nat) (S : zS) (b a6 a7 s : Int) (L : List Int) (y1 y2 y8 : zV) (hK : qK S) (hP : qP (zm S)) (hk : qA (zm S) 67 L) (hl : L.length ≤ 16) (hs : 0 ≤ s) (h7 : 0 ≤ a7 ∧ a7 < 2) :
    zF_284 e 96 [vr 37, y1, y2, vi b, vi L.length, vi s, vi a6, vi a7, y8] [] S = if qyg1 L s = 1 then zF_284 e 96 [vr 37, vu, vu, vi b, vi L.length, vi (s + 1), vi a6, vi (a7 + 1), vu] [] S else zF_284 e 130 [vr 37, vu, vu, vi b, vi L.length, vi s, vi a6, vi a7, vu] [] S := by
  have p44 := P_37_44 hP
  rw [b284_96]
  rcases qyg1_r L s with ⟨a1, b1⟩ | ⟨a1, b1, b2⟩
  · rw [a1, if_neg (show ¬ (0 : Int) = 1 by decide)]
    by_cases c : s < L.length
    · have v := qA_n hk s hs c
      have n2 : ¬ qnth L s = 32 := fun q => b1 ⟨c, q⟩
      have s16 : s < 16 := by omega
      simp (config := { maxSteps := 2000000 }) (disch := first | omega | (simp only [K_37 hK, K_67 hK, p44, hs, s16, qb_in, qkW, qmW, qnW, true_and, and_true, or_self, true_or, or_true, and_self]; done) | (simp only [K_37 hK, K_67 hK, p44, hs, s16, qb_in, qkW, qmW, qnW, true_and, and_true, or_self, true_or, or_true, and_self]; omega)) only [b284_0, b284_13, b284_29, b284_43, b284_50, b284_61, b284_65, b284_66, b284_74, b284_78, b284_79, b284_86, b284_90, b284_91, b284_102, b284_109, b284_121, b284_139, b284_151, b284_154, b284_158, b284_159, b284_166, b284_171, b284_183, b284_186, b284_187, b284_194, b284_203, b284_211, b284_217, b284_225, b284_229, b284_230, b284_237, b284_245, b284_252, b284_254, b284_269, b284_272, b284_276, b284_277, qcall_l, qcall_r, qretn_l, qJ_s, qJ_n, qV0, qEx, ↓qif0, ↓zchk_pos, ↓reduceIte, qput, qWW, qmW, qkW, qnW, K_37 hK, K_67 hK, p44, if_pos h7.2, if_pos c, v, if_neg n2]
    · simp (config := { maxSteps := 2000000 }) (disch := first | omega | (simp only [qb_in, qkW, qmW, qnW, true_and, and_true, or_self, true_or, or_true, and_self]; done) | (simp only [qb_in, qkW, qmW, qnW, true_and, and_true, or_self, true_or, or_true, and_self]; omega)) only [b284_0, b284_13, b284_29, b284_43, b284_50, b284_61, b284_65, b284_66, b284_74, b284_78, b284_79, b284_86, b284_90, b284_91, b284_102, b284_109, b284_121, b284_139, b284_151, b284_154, b284_158, b284_159, b284_166, b284_171, b284_183, b284_186, b284_187, b284_194, b284_203, b284_211, b284_217, b284_225, b284_229, b284_230, b284_237, b284_245, b284_252, b284_254, b284_269, b284_272, b284_276, b284_277, qcall_l, qcall_r, qretn_l, qJ_s, qJ_n, qV0, qEx, ↓qif0, ↓zchk_pos, ↓reduceIte, qput, qWW, qmW, qkW, qnW, if_pos h7.2, if_neg c]
  · rw [a1, if_pos rfl]
    have v := qA_n hk s hs b1
    have s16 : s < 16 := by omega
    have z1 : z32 (s + 1) = s + 1 := q32 (by omega)
    have z2 : z32 (a7 + 1) = a7 + 1 := q32 (by omega)
    simp (config := { maxSteps := 2000000 }) (disch := first | omega | (simp only [K_37 hK, K_67 hK, p44, hs, s16, qb_in, qkW, qmW, qnW, true_and, and_true, or_self, true_or, or_true, and_self]; done) | (simp only [K_37 hK, K_67 hK, p44, hs, s16, qb_in, qkW, qmW, qnW, true_and, and_true, or_self, true_or, or_true, and_self]; omega)) only [b284_0, b284_13, b284_29, b284_43, b284_50, b284_61, b284_65, b284_66, b284_74, b284_78, b284_79, b284_86, b284_90, b284_91, b284_102, b284_109, b284_121, b284_139, b284_151, b284_154, b284_158, b284_159, b284_166, b284_171, b284_183, b284_186, b284_187, b284_194, b284_203, b284_211, b284_217, b284_225, b284_229, b284_230, b284_237, b284_245, b284_252, b284_254, b284_269, b284_272, b284_276, b284_277, qcall_l, qcall_r, qretn_l, qJ_s, qJ_n, qV0, qEx, ↓qif0, ↓zchk_pos, ↓reduceIte, qput, qWW, qmW, qkW, qnW, K_37 hK, K_67 hK, p44, if_pos h7.2, if_pos b1, v, if_pos b2, z1, z2]
theorem r_asB (e : Nat) (S : zS) (b a6 : Int) (L : List Int) (hK : qK S) (hP : qP (zm S)) (hk : qA (zm S) 67 L) (hl : L.length ≤ 16) :
    zF_284 e 96 [vr 37, vu, vu, vi b, vi L.length, vi (qys L), vi a6, vi 0, vu] [] S = zF_284 e 130 [vr 37, vu, vu, vi b, vi L.length, vi (qyb L), vi a6, vi (qyg L), vu] [] S := by
  have r := qys_r L
  unfold qyb qyg
  rw [r_asG e S b a6 0 (qys L) L vu vu vu hK hP hk hl r.1 ⟨by decide, by decide⟩]
  rcases qyg1_r L (qys L) with ⟨a1, -⟩ | ⟨a1, -⟩
  · rw [a1, if_neg (show ¬ (0 : Int) = 1 by decide), if_neg (show ¬ (0 : Int) = 1 by decide), Int.add_zero]
  · rw [a1, if_pos rfl, if_pos rfl, r_asG e S b a6 (0 + 1) (qys L + 1) L vu vu vu hK hP hk hl (by omega) ⟨by decide, by decide⟩]
    rcases qyg1_r L (qys L + 1) with ⟨a2, -⟩ | ⟨a2, -⟩
    · rw [a2, if_neg (show ¬ (0 : Int) = 1 by decide)]
      rfl
    · rw [a2, if_pos rfl, b284_96]
      simp (config := { maxSteps := 2000000 }) (disch := first | omega | (simp only [qb_in, qkW, qmW, qnW, true_and, and_true, or_self, true_or, or_true, and_self]; done) | (simp only [qb_in, qkW, qmW, qnW, true_and, and_true, or_self, true_or, or_true, and_self]; omega)) only [b284_0, b284_13, b284_29, b284_43, b284_50, b284_61, b284_65, b284_66, b284_74, b284_78, b284_79, b284_86, b284_90, b284_91, b284_102, b284_109, b284_121, b284_139, b284_151, b284_154, b284_158, b284_159, b284_166, b284_171, b284_183, b284_186, b284_187, b284_194, b284_203, b284_211, b284_217, b284_225, b284_229, b284_230, b284_237, b284_245, b284_252, b284_254, b284_269, b284_272, b284_276, b284_277, qcall_l, qcall_r, qretn_l, qJ_s, qJ_n, qV0, qEx, ↓qif0, ↓zchk_pos, ↓reduceIte, qput, qWW, qmW, qkW, qnW, if_neg (show ¬ ((0 : Int) + 1 + 1 < 2) by decide)]
      rw [show qys L + 1 + 1 = qys L + (1 + 1) by omega]
      rfl
theorem qmo_z (c : Int) : qmo c = 0 ↔ ¬ qmkc c := by
  unfold qmo
  repeat' split
  all_goals constructor <;> intro <;> first | omega | (exfalso; omega)
theorem r_asC (e : Nat) (S : zS) (b a6 : Int) (L : List Int) (he : 1 ≤ e) (hK : qK S) (hP : qP (zm S)) (hk : qA (zm S) 67 L) (hl : 0 < L.length ∧ L.length ≤ 16) :
    zF_284 e 130 [vr 37, vu, vu, vi b, vi L.length, vi (qyb L), vi a6, vi (qyg L), vu] [] S = zF_284 e 159 [vr 37, vu, vu, vi b, vi L.length, vi (qyb L), vi a6, vi (qyg L), vu] [vi (qym L)] S := by
  have r1 := qys_r L
  have r2 := qyg_r L (by omega)
  have hbb : qys L + qyg L = qyb L := rfl
  have p44 := P_37_44 hP
  have ym := qym_r L
  obtain ⟨B, hB⟩ : ∃ B, qyb L = B := ⟨_, rfl⟩
  rw [hB] at hbb ym ⊢
  have z1 : z32 ((L.length : Int) - B) = L.length - B := q32 (by omega)
  have z2 : z32 ((L.length : Int) - 1) = L.length - 1 := q32 (by omega)
  have c0 : 0 ≤ (L.length : Int) - 1 := by omega
  have c16 : (L.length : Int) - 1 < 16 := by omega
  have v := qA_n hk (L.length - 1) c0 (by omega)
  obtain ⟨x, hx⟩ : ∃ x, qnth L (L.length - 1) = x := ⟨_, rfl⟩
  rw [hx] at v ym
  have mo := r_markOf e S x he
  have mz := qmo_z x
  obtain ⟨y, hy⟩ : ∃ y, qmo x = y := ⟨_, rfl⟩
  rw [hy] at mo mz
  rw [b284_130]
  rcases ym with ⟨a1, b1, d1⟩ | ⟨a1, b1⟩
  · have n0 : ¬ y = 0 := fun q => mz.mp q d1
    rw [a1]
    simp (config := { maxSteps := 2000000 }) (disch := first | omega | (simp only [K_37 hK, K_67 hK, p44, z2, c0, c16, qb_in, qkW, qmW, qnW, true_and, and_true, or_self, true_or, or_true, and_self]; done) | (simp only [K_37 hK, K_67 hK, p44, z2, c0, c16, qb_in, qkW, qmW, qnW, true_and, and_true, or_self, true_or, or_true, and_self]; omega)) only [b284_0, b284_13, b284_29, b284_43, b284_50, b284_61, b284_65, b284_66, b284_74, b284_78, b284_79, b284_86, b284_90, b284_91, b284_102, b284_109, b284_121, b284_130, b284_139, b284_151, b284_154, b284_158, b284_166, b284_171, b284_183, b284_186, b284_187, b284_194, b284_203, b284_211, b284_217, b284_225, b284_229, b284_230, b284_237, b284_245, b284_252, b284_254, b284_269, b284_272, b284_276, b284_277, qcall_l, qcall_r, qretn_l, qJ_s, qJ_n, qV0, qEx, ↓qif0, ↓zchk_pos, ↓reduceIte, qput, qWW, qmW, qkW, qnW, K_37 hK, K_67 hK, p44, z1, if_pos b1, z2, v, mo, if_neg n0]
  · rw [a1]
    by_cases c : 1 < (L.length : Int) - B
    · have n0 : y = 0 := mz.mpr fun q => b1 ⟨c, q⟩
      simp (config := { maxSteps := 2000000 }) (disch := first | omega | (simp only [K_37 hK, K_67 hK, p44, z2, c0, c16, qb_in, qkW, qmW, qnW, true_and, and_true, or_self, true_or, or_true, and_self]; done) | (simp only [K_37 hK, K_67 hK, p44, z2, c0, c16, qb_in, qkW, qmW, qnW, true_and, and_true, or_self, true_or, or_true, and_self]; omega)) only [b284_0, b284_13, b284_29, b284_43, b284_50, b284_61, b284_65, b284_66, b284_74, b284_78, b284_79, b284_86, b284_90, b284_91, b284_102, b284_109, b284_121, b284_130, b284_139, b284_151, b284_154, b284_158, b284_166, b284_171, b284_183, b284_186, b284_187, b284_194, b284_203, b284_211, b284_217, b284_225, b284_229, b284_230, b284_237, b284_245, b284_252, b284_254, b284_269, b284_272, b284_276, b284_277, qcall_l, qcall_r, qretn_l, qJ_s, qJ_n, qV0, qEx, ↓qif0, ↓zchk_pos, ↓reduceIte, qput, qWW, qmW, qkW, qnW, K_37 hK, K_67 hK, p44, z1, if_pos c, z2, v, mo, if_pos n0]
    · simp (config := { maxSteps := 2000000 }) (disch := first | omega | (simp only [qb_in, qkW, qmW, qnW, true_and, and_true, or_self, true_or, or_true, and_self]; done) | (simp only [qb_in, qkW, qmW, qnW, true_and, and_true, or_self, true_or, or_true, and_self]; omega)) only [b284_0, b284_13, b284_29, b284_43, b284_50, b284_61, b284_65, b284_66, b284_74, b284_78, b284_79, b284_86, b284_90, b284_91, b284_102, b284_109, b284_121, b284_130, b284_139, b284_151, b284_154, b284_158, b284_166, b284_171, b284_183, b284_186, b284_187, b284_194, b284_203, b284_211, b284_217, b284_225, b284_229, b284_230, b284_237, b284_245, b284_252, b284_254, b284_269, b284_272, b284_276, b284_277, qcall_l, qcall_r, qretn_l, qJ_s, qJ_n, qV0, qEx, ↓qif0, ↓zchk_pos, ↓reduceIte, qput, qWW, qmW, qkW, qnW, z1, if_neg c]
/-- read as it stands, by the reference -/
def qyAs (T : Int → Int → Int) (N g : Int) (L W : List Int) (dg st bg mk : Int) : Prop :=
  qys L = st ∧ (if qym L = 1 then qmo (qnth L (L.length - 1)) else 0) = mk ∧ (qyg L = bg ∨ (bg = 1 ∧ qyg L = 2 ∧ W.length = 1)) ∧ qySo T N g L (qyb L) (qye L) W dg
theorem r_asD (e : Nat) (S : zS) (b c N g : Int) (T : Int → Int → Int) (W L : List Int) (P dg st bg mk : Int) (he : 6 ≤ e) (hK : qK S) (hP : qP (zm S)) (hx : qRx (zm S) W P dg st bg mk) (hW : qWk2 W dg st bg mk) (h49 : zm S 49 b = c) (h50 : zm S 50 b = g) (hb : 0 ≤ b ∧ b < 4) (hc : qRc (zm S) c N T) (hT : qTok T N) (hk : qA (zm S) 67 L) (hl : 0 < L.length ∧ L.length ≤ 16) :
    ∃ m' u, zF_284 e 159 [vr 37, vu, vu, vi b, vi L.length, vi (qyb L), vi (if qys L = st then 1 else 0), vi (qyg L), vu] [vi (qym L)] S = some (.inl (some (vi u)), qW S m') ∧ qfr [68, 69] [] (zm S) m' ∧ (u = 0 ∨ u = 1) ∧ (u = 1 ↔ qyAs T N g L W dg st bg mk) := by
  have r1 := qys_r L
  have r2 := qyg_r L (by omega)
  have hbb : qys L + qyg L = qyb L := rfl
  have ye : qye L = L.length - qym L := rfl
  have ym := qym_r L
  have p44 := P_37_44 hP
  have p17 := P_37_17 hP
  have p18 := P_37_18 hP
  obtain ⟨a1, a2, a3, a4, a5, a6, a7⟩ := id hx
  have z2 : z32 ((L.length : Int) - 1) = L.length - 1 := q32 (by omega)
  have c0 : 0 ≤ (L.length : Int) - 1 := by omega
  have c16 : (L.length : Int) - 1 < 16 := by omega
  have b0 := hb.1
  have b4 := hb.2
  have v := qA_n hk (L.length - 1) c0 (by omega)
  have mo := r_markOf e S (qnth L (L.length - 1)) (by omega)
  have ends : ∀ R : zR, R = some (.inl (some (vi 0)), S) → ¬ qyAs T N g L W dg st bg mk → ∃ m' u, R = some (.inl (some (vi u)), qW S m') ∧ qfr [68, 69] [] (zm S) m' ∧ (u = 0 ∨ u = 1) ∧ (u = 1 ↔ qyAs T N g L W dg st bg mk) := fun R h1 h2 => ⟨zm S, 0, h1, qfr_r _ _ _, Or.inl rfl, ⟨fun z => absurd z (by decide), fun z => absurd z h2⟩⟩
  by_cases s1 : qys L = st
  · rw [if_pos s1]
    -- the mark
    have mst : zF_284 e 159 [vr 37, vu, vu, vi b, vi L.length, vi (qyb L), vi 1, vi (qyg L), vu] [vi (qym L)] S = if (if qym L = 1 then qmo (qnth L (L.length - 1)) else 0) = mk then zF_284 e 194 [vr 37, vu, vu, vi b, vi L.length, vi (qyb L), vu, vi (qyg L), vi (qym L)] [] S else some (.inl (some (vi 0)), S) := by
      rcases ym with ⟨q, -⟩ | ⟨q, -⟩
      · rw [q, if_pos rfl]
        by_cases c : qmo (qnth L (L.length - 1)) = mk
        · rw [if_pos c]
          simp (config := { maxSteps := 2000000 }) (disch := first | omega | (simp only [K_37 hK, K_67 hK, p44, z2, c0, c16, qb_in, qkW, qmW, qnW, true_and, and_true, or_self, true_or, or_true, and_self]; done) | (simp only [K_37 hK, K_67 hK, p44, z2, c0, c16, qb_in, qkW, qmW, qnW, true_and, and_true, or_self, true_or, or_true, and_self]; omega)) only [b284_0, b284_13, b284_29, b284_43, b284_50, b284_61, b284_65, b284_66, b284_74, b284_78, b284_79, b284_86, b284_90, b284_91, b284_102, b284_109, b284_121, b284_130, b284_139, b284_151, b284_154, b284_158, b284_159, b284_166, b284_171, b284_183, b284_186, b284_187, b284_203, b284_211, b284_217, b284_225, b284_229, b284_230, b284_237, b284_245, b284_252, b284_254, b284_269, b284_272, b284_276, b284_277, qcall_l, qcall_r, qretn_l, qJ_s, qJ_n, qV0, qEx, ↓qif0, ↓zchk_pos, ↓reduceIte, qput, qWW, qmW, qkW, qnW, K_37 hK, K_67 hK, p44, z2, v, mo, a6, if_pos c, Int.reduceEq]
        · rw [if_neg c]
          simp (config := { maxSteps := 2000000 }) (disch := first | omega | (simp only [K_37 hK, K_67 hK, p44, z2, c0, c16, qb_in, qkW, qmW, qnW, true_and, and_true, or_self, true_or, or_true, and_self]; done) | (simp only [K_37 hK, K_67 hK, p44, z2, c0, c16, qb_in, qkW, qmW, qnW, true_and, and_true, or_self, true_or, or_true, and_self]; omega)) only [b284_0, b284_13, b284_29, b284_43, b284_50, b284_61, b284_65, b284_66, b284_74, b284_78, b284_79, b284_86, b284_90, b284_91, b284_102, b284_109, b284_121, b284_130, b284_139, b284_151, b284_154, b284_158, b284_159, b284_166, b284_171, b284_183, b284_186, b284_187, b284_203, b284_211, b284_217, b284_225, b284_229, b284_230, b284_237, b284_245, b284_252, b284_254, b284_269, b284_272, b284_276, b284_277, qcall_l, qcall_r, qretn_l, qJ_s, qJ_n, qV0, qEx, ↓qif0, ↓zchk_pos, ↓reduceIte, qput, qWW, qmW, qkW, qnW, K_37 hK, K_67 hK, p44, z2, v, mo, a6, if_neg c, Int.reduceEq, Int.reduceLE, true_and, and_self]
      · rw [q, if_neg (show ¬ (0 : Int) = 1 by decide)]
        by_cases c : 0 = mk
        · rw [if_pos c]
          simp (config := { maxSteps := 2000000 }) (disch := first | omega | (simp only [K_37 hK, qb_in, qkW, qmW, qnW, true_and, and_true, or_self, true_or, or_true, and_self]; done) | (simp only [K_37 hK, qb_in, qkW, qmW, qnW, true_and, and_true, or_self, true_or, or_true, and_self]; omega)) only [b284_0, b284_13, b284_29, b284_43, b284_50, b284_61, b284_65, b284_66, b284_74, b284_78, b284_79, b284_86, b284_90, b284_91, b284_102, b284_109, b284_121, b284_130, b284_139, b284_151, b284_154, b284_158, b284_159, b284_166, b284_171, b284_183, b284_186, b284_187, b284_203, b284_211, b284_217, b284_225, b284_229, b284_230, b284_237, b284_245, b284_252, b284_254, b284_269, b284_272, b284_276, b284_277, qcall_l, qcall_r, qretn_l, qJ_s, qJ_n, qV0, qEx, ↓qif0, ↓zchk_pos, ↓reduceIte, qput, qWW, qmW, qkW, qnW, K_37 hK, a6, if_pos c, Int.reduceEq]
        · rw [if_neg c]
          simp (config := { maxSteps := 2000000 }) (disch := first | omega | (simp only [K_37 hK, qb_in, qkW, qmW, qnW, true_and, and_true, or_self, true_or, or_true, and_self]; done) | (simp only [K_37 hK, qb_in, qkW, qmW, qnW, true_and, and_true, or_self, true_or, or_true, and_self]; omega)) only [b284_0, b284_13, b284_29, b284_43, b284_50, b284_61, b284_65, b284_66, b284_74, b284_78, b284_79, b284_86, b284_90, b284_91, b284_102, b284_109, b284_121, b284_130, b284_139, b284_151, b284_154, b284_158, b284_159, b284_166, b284_171, b284_183, b284_186, b284_187, b284_203, b284_211, b284_217, b284_225, b284_229, b284_230, b284_237, b284_245, b284_252, b284_254, b284_269, b284_272, b284_276, b284_277, qcall_l, qcall_r, qretn_l, qJ_s, qJ_n, qV0, qEx, ↓qif0, ↓zchk_pos, ↓reduceIte, qput, qWW, qmW, qkW, qnW, K_37 hK, a6, if_neg c, Int.reduceEq, Int.reduceLE, true_and, and_self]
    rw [mst]
    by_cases s2 : (if qym L = 1 then qmo (qnth L (L.length - 1)) else 0) = mk
    · rw [if_pos s2]
      -- the greats
      have gst : zF_284 e 194 [vr 37, vu, vu, vi b, vi L.length, vi (qyb L), vu, vi (qyg L), vi (qym L)] [] S = if qyg L = bg ∨ (bg = 1 ∧ qyg L = 2 ∧ (W.length : Int) = 1) then zF_284 e 237 [vr 37, vu, vu, vi b, vi L.length, vi (qyb L), vi 1, vu, vi (qym L)] [] S else some (.inl (some (vi 0)), S) := by
        by_cases c1 : qyg L = bg
        · rw [if_pos (Or.inl c1)]
          simp (config := { maxSteps := 2000000 }) (disch := first | omega | (simp only [K_37 hK, qb_in, qkW, qmW, qnW, true_and, and_true, or_self, true_or, or_true, and_self]; done) | (simp only [K_37 hK, qb_in, qkW, qmW, qnW, true_and, and_true, or_self, true_or, or_true, and_self]; omega)) only [b284_0, b284_13, b284_29, b284_43, b284_50, b284_61, b284_65, b284_66, b284_74, b284_78, b284_79, b284_86, b284_90, b284_91, b284_102, b284_109, b284_121, b284_130, b284_139, b284_151, b284_154, b284_158, b284_159, b284_166, b284_171, b284_183, b284_186, b284_187, b284_194, b284_203, b284_211, b284_217, b284_225, b284_229, b284_230, b284_245, b284_252, b284_254, b284_269, b284_272, b284_276, b284_277, qcall_l, qcall_r, qretn_l, qJ_s, qJ_n, qV0, qEx, ↓qif0, ↓zchk_pos, ↓reduceIte, qput, qWW, qmW, qkW, qnW, K_37 hK, a5, if_pos c1, Int.reduceEq]
        · by_cases c2 : bg = 1
          · by_cases c3 : qyg L = 2
            · by_cases c4 : (W.length : Int) = 1
              · rw [if_pos (Or.inr ⟨c2, c3, c4⟩)]
                simp (config := { maxSteps := 2000000 }) (disch := first | omega | (simp only [K_37 hK, qb_in, qkW, qmW, qnW, true_and, and_true, or_self, true_or, or_true, and_self]; done) | (simp only [K_37 hK, qb_in, qkW, qmW, qnW, true_and, and_true, or_self, true_or, or_true, and_self]; omega)) only [b284_0, b284_13, b284_29, b284_43, b284_50, b284_61, b284_65, b284_66, b284_74, b284_78, b284_79, b284_86, b284_90, b284_91, b284_102, b284_109, b284_121, b284_130, b284_139, b284_151, b284_154, b284_158, b284_159, b284_166, b284_171, b284_183, b284_186, b284_187, b284_194, b284_203, b284_211, b284_217, b284_225, b284_229, b284_230, b284_245, b284_252, b284_254, b284_269, b284_272, b284_276, b284_277, qcall_l, qcall_r, qretn_l, qJ_s, qJ_n, qV0, qEx, ↓qif0, ↓zchk_pos, ↓reduceIte, qput, qWW, qmW, qkW, qnW, K_37 hK, a5, if_neg c1, if_pos c2, if_pos c3, a1, if_pos c4, Int.reduceEq]
              · rw [if_neg (by omega)]
                simp (config := { maxSteps := 2000000 }) (disch := first | omega | (simp only [K_37 hK, qb_in, qkW, qmW, qnW, true_and, and_true, or_self, true_or, or_true, and_self]; done) | (simp only [K_37 hK, qb_in, qkW, qmW, qnW, true_and, and_true, or_self, true_or, or_true, and_self]; omega)) only [b284_0, b284_13, b284_29, b284_43, b284_50, b284_61, b284_65, b284_66, b284_74, b284_78, b284_79, b284_86, b284_90, b284_91, b284_102, b284_109, b284_121, b284_130, b284_139, b284_151, b284_154, b284_158, b284_159, b284_166, b284_171, b284_183, b284_186, b284_187, b284_194, b284_203, b284_211, b284_217, b284_225, b284_229, b284_230, b284_245, b284_252, b284_254, b284_269, b284_272, b284_276, b284_277, qcall_l, qcall_r, qretn_l, qJ_s, qJ_n, qV0, qEx, ↓qif0, ↓zchk_pos, ↓reduceIte, qput, qWW, qmW, qkW, qnW, K_37 hK, a5, if_neg c1, if_pos c2, if_pos c3, a1, if_neg c4, Int.reduceEq, Int.reduceLE, true_and, and_self]
            · rw [if_neg (by omega)]
              simp (config := { maxSteps := 2000000 }) (disch := first | omega | (simp only [K_37 hK, qb_in, qkW, qmW, qnW, true_and, and_true, or_self, true_or, or_true, and_self]; done) | (simp only [K_37 hK, qb_in, qkW, qmW, qnW, true_and, and_true, or_self, true_or, or_true, and_self]; omega)) only [b284_0, b284_13, b284_29, b284_43, b284_50, b284_61, b284_65, b284_66, b284_74, b284_78, b284_79, b284_86, b284_90, b284_91, b284_102, b284_109, b284_121, b284_130, b284_139, b284_151, b284_154, b284_158, b284_159, b284_166, b284_171, b284_183, b284_186, b284_187, b284_194, b284_203, b284_211, b284_217, b284_225, b284_229, b284_230, b284_245, b284_252, b284_254, b284_269, b284_272, b284_276, b284_277, qcall_l, qcall_r, qretn_l, qJ_s, qJ_n, qV0, qEx, ↓qif0, ↓zchk_pos, ↓reduceIte, qput, qWW, qmW, qkW, qnW, K_37 hK, a5, if_neg c1, if_pos c2, if_neg c3, Int.reduceEq, Int.reduceLE, true_and, and_self]
          · rw [if_neg (by omega)]
            simp (config := { maxSteps := 2000000 }) (disch := first | omega | (simp only [K_37 hK, qb_in, qkW, qmW, qnW, true_and, and_true, or_self, true_or, or_true, and_self]; done) | (simp only [K_37 hK, qb_in, qkW, qmW, qnW, true_and, and_true, or_self, true_or, or_true, and_self]; omega)) only [b284_0, b284_13, b284_29, b284_43, b284_50, b284_61, b284_65, b284_66, b284_74, b284_78, b284_79, b284_86, b284_90, b284_91, b284_102, b284_109, b284_121, b284_130, b284_139, b284_151, b284_154, b284_158, b284_159, b284_166, b284_171, b284_183, b284_186, b284_187, b284_194, b284_203, b284_211, b284_217, b284_225, b284_229, b284_230, b284_245, b284_252, b284_254, b284_269, b284_272, b284_276, b284_277, qcall_l, qcall_r, qretn_l, qJ_s, qJ_n, qV0, qEx, ↓qif0, ↓zchk_pos, ↓reduceIte, qput, qWW, qmW, qkW, qnW, K_37 hK, a5, if_neg c1, if_neg c2, Int.reduceEq, Int.reduceLE, true_and, and_self]
      rw [gst]
      by_cases s3 : qyg L = bg ∨ (bg = 1 ∧ qyg L = 2 ∧ (W.length : Int) = 1)
      · rw [if_pos s3]
        have Bn : 0 ≤ qyb L ∧ qyb L ≤ qye L ∧ qye L ≤ L.length := by
          rcases ym with ⟨ym, ym2, -⟩ | ⟨ym, -⟩ <;> omega
        obtain ⟨m', u, r, f, hu, gu⟩ := r_isReadSo e S (qyb L) (qye L) c N g T W L P dg st bg mk he hK hP hx hW hc hT hk hl.2 Bn
        refine ⟨m', u, ?_, f, hu, gu.trans ⟨fun z => ⟨s1, s2, ?_, z⟩, fun z => z.2.2.2⟩⟩
        · rcases ym with ⟨q, -⟩ | ⟨q, -⟩
          · have e1 : qye L = (L.length : Int) - 1 := by omega
            rw [e1] at r
            rw [q]
            rcases hu with rfl | rfl <;> simp (config := { maxSteps := 2000000 }) (disch := first | omega | (simp only [K_37 hK, K_49 hK, K_50 hK, p17, p18, b0, b4, qb_in, qkW, qmW, qnW, true_and, and_true, or_self, true_or, or_true, and_self]; done) | (simp only [K_37 hK, K_49 hK, K_50 hK, p17, p18, b0, b4, qb_in, qkW, qmW, qnW, true_and, and_true, or_self, true_or, or_true, and_self]; omega)) only [b284_0, b284_13, b284_29, b284_43, b284_50, b284_61, b284_65, b284_66, b284_74, b284_78, b284_79, b284_86, b284_90, b284_91, b284_102, b284_109, b284_121, b284_130, b284_139, b284_151, b284_154, b284_158, b284_159, b284_166, b284_171, b284_183, b284_186, b284_187, b284_194, b284_203, b284_211, b284_217, b284_225, b284_229, b284_230, b284_237, b284_245, b284_252, b284_254, b284_269, b284_272, b284_276, b284_277, qcall_l, qcall_r, qretn_l, qJ_s, qJ_n, qV0, qEx, ↓qif0, ↓zchk_pos, ↓reduceIte, qput, qWW, qmW, qkW, qnW, K_37 hK, K_49 hK, K_50 hK, p17, p18, h49, h50, z2, r, Int.reduceEq, Int.reduceLE, true_and, and_self]
          · have e1 : qye L = (L.length : Int) := by omega
            rw [e1] at r
            rw [q]
            rcases hu with rfl | rfl <;> simp (config := { maxSteps := 2000000 }) (disch := first | omega | (simp only [K_37 hK, K_49 hK, K_50 hK, p17, p18, b0, b4, qb_in, qkW, qmW, qnW, true_and, and_true, or_self, true_or, or_true, and_self]; done) | (simp only [K_37 hK, K_49 hK, K_50 hK, p17, p18, b0, b4, qb_in, qkW, qmW, qnW, true_and, and_true, or_self, true_or, or_true, and_self]; omega)) only [b284_0, b284_13, b284_29, b284_43, b284_50, b284_61, b284_65, b284_66, b284_74, b284_78, b284_79, b284_86, b284_90, b284_91, b284_102, b284_109, b284_121, b284_130, b284_139, b284_151, b284_154, b284_158, b284_159, b284_166, b284_171, b284_183, b284_186, b284_187, b284_194, b284_203, b284_211, b284_217, b284_225, b284_229, b284_230, b284_237, b284_245, b284_252, b284_254, b284_269, b284_272, b284_276, b284_277, qcall_l, qcall_r, qretn_l, qJ_s, qJ_n, qV0, qEx, ↓qif0, ↓zchk_pos, ↓reduceIte, qput, qWW, qmW, qkW, qnW, K_37 hK, K_49 hK, K_50 hK, p17, p18, h49, h50, r, Int.reduceEq, Int.reduceLE, true_and, and_self]
        · rcases s3 with q | ⟨q1, q2, q3⟩
          · exact Or.inl q
          · exact Or.inr ⟨q1, q2, by omega⟩
      · rw [if_neg s3]
        exact ends _ rfl fun z => s3 (z.2.2.1.elim Or.inl fun q => Or.inr ⟨q.1, q.2.1, by have := q.2.2; omega⟩)
    · rw [if_neg s2]
      exact ends _ rfl fun z => s2 z.2.1
  · rw [if_neg s1]
    refine ends _ ?_ fun z => s1 z.1
    simp (config := { maxSteps := 2000000 }) (disch := first | omega | (simp only [qb_in, qkW, qmW, qnW, true_and, and_true, or_self, true_or, or_true, and_self]; done) | (simp only [qb_in, qkW, qmW, qnW, true_and, and_true, or_self, true_or, or_true, and_self]; omega)) only [b284_0, b284_13, b284_29, b284_43, b284_50, b284_61, b284_65, b284_66, b284_74, b284_78, b284_79, b284_86, b284_90, b284_91, b284_102, b284_109, b284_121, b284_130, b284_139, b284_151, b284_154, b284_158, b284_159, b284_166, b284_171, b284_183, b284_186, b284_187, b284_203, b284_211, b284_217, b284_225, b284_229, b284_230, b284_237, b284_245, b284_252, b284_254, b284_269, b284_272, b284_276, b284_277, qcall_l, qcall_r, qretn_l, qJ_s, qJ_n, qV0, qEx, ↓qif0, ↓zchk_pos, ↓reduceIte, qput, qWW, qmW, qkW, qnW, Int.reduceEq, Int.reduceLE, true_and, and_self]
