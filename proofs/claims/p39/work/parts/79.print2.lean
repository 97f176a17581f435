/-! The class writes a tree: its cells. -/
theorem qtd (a b : Int) (ha : 0 ≤ a) : Int.tdiv a b = a / b := Int.tdiv_eq_ediv_of_nonneg ha
theorem qtm (a b : Int) (ha : 0 ≤ a) : Int.tmod a b = a % b := Int.tmod_eq_emod_of_nonneg ha
theorem s_writeAtom (d : Nat) (S : zS) (F z : Int) (L : List Int) (m : Int → Int → Int) (h : 3 ≤ d) (hK : qK S) (hLt : qLt m) (hF : qFk S F) (hF2 : 3 ≤ F) (hp : qFp m F) (hL : qCl m F L) (hz : qza z) (hl : L.length ≤ 150) :
    ∃ m', zD d 76 [vr F, vi (qkn (qAt z)), vi (if z < 0 then -1 - z else z)] (qW S m) = some (.inl none, qW S m') ∧ qCl m' F (L ++ qpr 0 (qAt z)) ∧ qFw F m m' := by
  obtain ⟨e, rfl, h1⟩ := qd h
  have k0 := hF.1
  rw [qpr_a]
  by_cases c : z < 0
  · rw [if_pos c, if_pos c, show qkn (qAt z) = if z < 0 then 97 else 48 from rfl, if_pos c]
    have lc := s_letterCell e (qW S m) (-1 - z) (by omega) hK hLt
    obtain ⟨m', r, p1, f1⟩ := s_appendCell e S F (qlc (-1 - z)) L m (by omega) hF hp hL (by omega)
    refine ⟨m', ?_, p1, f1⟩
    simp (config := { maxSteps := 2000000 }) (disch := first | omega | (simp only [k0, qb_in, qkW, qmW, qnW, true_and, and_true, or_self, true_or, or_true, and_self]; done) | (simp only [k0, qb_in, qkW, qmW, qnW, true_and, and_true, or_self, true_or, or_true, and_self]; omega)) only [zD_76, b76_0, b76_6, b76_11, b76_14, b76_15, b76_21, b76_32, b76_40, b76_51, b76_60, b76_70, b76_73, b76_81, qcall_l, qcall_r, qretn_l, qJ_s, qJ_n, qV0, qEx, ↓qif0, ↓zchk_pos, ↓reduceIte, qput, qWW, qmW, qkW, qnW, k0, Int.reduceEq, lc, r]
  · rw [if_neg c, if_neg c, show qkn (qAt z) = if z < 0 then 97 else 48 from rfl, if_neg c]
    have hz0 : 10 ≤ z ∧ z < 20000 := by
      unfold qza at hz
      omega
    obtain ⟨m0, r0, p0, f0⟩ := s_appendCell e S F 60 L m (by omega) hF hp hL (by omega)
    have dc : ∀ (g : Int) (m' : Int → Int → Int), qLt m' → 0 ≤ g ∧ g < 10 → zD e 174 [vi g] (qW S m') = some (.inl (some (vi (qdc g))), qW S m') := fun g m' hm hg => s_digitCell e (qW S m') g (by omega) (by omega) hK hm
    have lt : ∀ {m' : Int → Int → Int}, qFw F m m' → qLt m' := fun hf q hq => by
      rw [hf.1 2 (by omega) (by omega)]
      exact hLt q hq
    have st : ∀ (g : Int) (K : List Int) (m1 : Int → Int → Int), qFw F m m1 → qCl m1 F K → K.length < 160 → 0 ≤ g ∧ g < 10 → ∃ m2, zD e 174 [vi g] (qW S m1) = some (.inl (some (vi (qdc g))), qW S m1) ∧ zD e 73 [vr F, vi (qdc g)] (qW S m1) = some (.inl none, qW S m2) ∧ qCl m2 F (K ++ [qdc g]) ∧ qFw F m m2 := fun g K m1 hf hK1 hl1 hg => by
      obtain ⟨m2, r, p1, f1⟩ := s_appendCell e S F (qdc g) K m1 (by omega) hF (qFp_w hp hf) hK1 hl1
      exact ⟨m2, dc g m1 (lt hf) hg, r, p1, qFw_t hf f1⟩
    have ld : ∀ a, 0 ≤ a → Int.tdiv a 10 = a / 10 := fun a ha => qtd a 10 ha
    -- the last four steps, from a unit on
    have e1 : ∀ (x1 : zV) (K : List Int) (m1 : Int → Int → Int), qFw F m m1 → qCl m1 F K → K.length < 156 → ∃ m2, zF_76 e 56 [vr F, x1, vi z, vi 1, vu] [] (qW S m1) = some (.inl none, qW S m2) ∧ qCl m2 F (K ++ [qdc (z % 10)]) ∧ qFw F m m2 := fun x1 K m1 hf hc hl1 => by
      obtain ⟨m2, a1, a2, a3, a4⟩ := st (z % 10) K m1 hf hc (by omega) (by omega)
      refine ⟨m2, ?_, a3, a4⟩
      rw [b76_56]
      have t1 : Int.tdiv z 1 = z := Int.tdiv_one z
      have t2 : Int.tmod z 10 = z % 10 := qtm z 10 (by omega)
      have hx : zF_76 e 56 [vr F, vu, vi z, vi 0, vu] [] (qW S m2) = some (.inl none, qW S m2) := by
        rw [b76_56]
        simp (config := { maxSteps := 2000000 }) (disch := first | omega | (simp only [qb_in, qkW, qmW, qnW, true_and, and_true, or_self, true_or, or_true, and_self]; done) | (simp only [qb_in, qkW, qmW, qnW, true_and, and_true, or_self, true_or, or_true, and_self]; omega)) only [b76_0, b76_6, b76_11, b76_14, b76_15, b76_21, b76_32, b76_40, b76_51, b76_60, b76_70, b76_73, b76_81, qcall_l, qcall_r, qretn_l, qJ_s, qJ_n, qV0, qEx, ↓qif0, ↓zchk_pos, ↓reduceIte, qput, qWW, qmW, qkW, qnW, Int.lt_irrefl]
      simp (config := { maxSteps := 2000000 }) (disch := first | omega | (simp only [k0, Int.reduceEq, not_false_eq_true, ne_eq, qb_in, qkW, qmW, qnW, true_and, and_true, or_self, true_or, or_true, and_self]; done) | (simp only [k0, Int.reduceEq, not_false_eq_true, ne_eq, qb_in, qkW, qmW, qnW, true_and, and_true, or_self, true_or, or_true, and_self]; omega)) only [b76_0, b76_6, b76_11, b76_14, b76_15, b76_21, b76_32, b76_40, b76_51, b76_60, b76_70, b76_73, b76_81, qcall_l, qcall_r, qretn_l, qJ_s, qJ_n, qV0, qEx, ↓qif0, ↓zchk_pos, ↓reduceIte, qput, qWW, qmW, qkW, qnW, k0, Int.reduceLT, ne_eq, Int.reduceEq, not_false_eq_true, t1, t2, q32, a1, a2, Int.reduceTDiv, hx]
    have e2 : ∀ (x1 : zV) (K : List Int) (m1 : Int → Int → Int), qFw F m m1 → qCl m1 F K → K.length < 155 → ∃ m2, zF_76 e 56 [vr F, x1, vi z, vi 10, vu] [] (qW S m1) = some (.inl none, qW S m2) ∧ qCl m2 F (K ++ [qdc (z / 10 % 10), qdc (z % 10)]) ∧ qFw F m m2 := fun x1 K m1 hf hc hl1 => by
      obtain ⟨m2, a1, a2, a3, a4⟩ := st (z / 10 % 10) K m1 hf hc (by omega) (by omega)
      obtain ⟨m3, b1, b2, b3⟩ := e1 vu _ m2 a4 a3 (by rw [List.length_append]; show K.length + 1 < 156; omega)
      rw [List.append_assoc] at b2
      refine ⟨m3, ?_, b2, b3⟩
      rw [b76_56]
      have t1 : Int.tdiv z 10 = z / 10 := qtd z 10 (by omega)
      have t2 : Int.tmod (z / 10) 10 = z / 10 % 10 := qtm (z / 10) 10 (by omega)
      simp (config := { maxSteps := 2000000 }) (disch := first | omega | (simp only [k0, Int.reduceEq, not_false_eq_true, ne_eq, qb_in, qkW, qmW, qnW, true_and, and_true, or_self, true_or, or_true, and_self]; done) | (simp only [k0, Int.reduceEq, not_false_eq_true, ne_eq, qb_in, qkW, qmW, qnW, true_and, and_true, or_self, true_or, or_true, and_self]; omega)) only [b76_0, b76_6, b76_11, b76_14, b76_15, b76_21, b76_32, b76_40, b76_51, b76_60, b76_70, b76_73, b76_81, qcall_l, qcall_r, qretn_l, qJ_s, qJ_n, qV0, qEx, ↓qif0, ↓zchk_pos, ↓reduceIte, qput, qWW, qmW, qkW, qnW, k0, Int.reduceLT, ne_eq, Int.reduceEq, not_false_eq_true, t1, t2, q32, a1, a2, Int.reduceTDiv, b1]
    have e3 : ∀ (x1 : zV) (K : List Int) (m1 : Int → Int → Int), qFw F m m1 → qCl m1 F K → K.length < 154 → ∃ m2, zF_76 e 56 [vr F, x1, vi z, vi 100, vu] [] (qW S m1) = some (.inl none, qW S m2) ∧ qCl m2 F (K ++ [qdc (z / 100 % 10), qdc (z / 10 % 10), qdc (z % 10)]) ∧ qFw F m m2 := fun x1 K m1 hf hc hl1 => by
      obtain ⟨m2, a1, a2, a3, a4⟩ := st (z / 100 % 10) K m1 hf hc (by omega) (by omega)
      obtain ⟨m3, b1, b2, b3⟩ := e2 vu _ m2 a4 a3 (by rw [List.length_append]; show K.length + 1 < 155; omega)
      rw [List.append_assoc] at b2
      refine ⟨m3, ?_, b2, b3⟩
      rw [b76_56]
      have t1 : Int.tdiv z 100 = z / 100 := qtd z 100 (by omega)
      have t2 : Int.tmod (z / 100) 10 = z / 100 % 10 := qtm (z / 100) 10 (by omega)
      simp (config := { maxSteps := 2000000 }) (disch := first | omega | (simp only [k0, Int.reduceEq, not_false_eq_true, ne_eq, qb_in, qkW, qmW, qnW, true_and, and_true, or_self, true_or, or_true, and_self]; done) | (simp only [k0, Int.reduceEq, not_false_eq_true, ne_eq, qb_in, qkW, qmW, qnW, true_and, and_true, or_self, true_or, or_true, and_self]; omega)) only [b76_0, b76_6, b76_11, b76_14, b76_15, b76_21, b76_32, b76_40, b76_51, b76_60, b76_70, b76_73, b76_81, qcall_l, qcall_r, qretn_l, qJ_s, qJ_n, qV0, qEx, ↓qif0, ↓zchk_pos, ↓reduceIte, qput, qWW, qmW, qkW, qnW, k0, Int.reduceLT, ne_eq, Int.reduceEq, not_false_eq_true, t1, t2, q32, a1, a2, Int.reduceTDiv, b1]
    have e4 : ∀ (x1 : zV) (K : List Int) (m1 : Int → Int → Int), qFw F m m1 → qCl m1 F K → K.length < 153 → ∃ m2, zF_76 e 56 [vr F, x1, vi z, vi 1000, vu] [] (qW S m1) = some (.inl none, qW S m2) ∧ qCl m2 F (K ++ [qdc (z / 1000 % 10), qdc (z / 100 % 10), qdc (z / 10 % 10), qdc (z % 10)]) ∧ qFw F m m2 := fun x1 K m1 hf hc hl1 => by
      obtain ⟨m2, a1, a2, a3, a4⟩ := st (z / 1000 % 10) K m1 hf hc (by omega) (by omega)
      obtain ⟨m3, b1, b2, b3⟩ := e3 vu _ m2 a4 a3 (by rw [List.length_append]; show K.length + 1 < 154; omega)
      rw [List.append_assoc] at b2
      refine ⟨m3, ?_, b2, b3⟩
      rw [b76_56]
      have t1 : Int.tdiv z 1000 = z / 1000 := qtd z 1000 (by omega)
      have t2 : Int.tmod (z / 1000) 10 = z / 1000 % 10 := qtm (z / 1000) 10 (by omega)
      simp (config := { maxSteps := 2000000 }) (disch := first | omega | (simp only [k0, Int.reduceEq, not_false_eq_true, ne_eq, qb_in, qkW, qmW, qnW, true_and, and_true, or_self, true_or, or_true, and_self]; done) | (simp only [k0, Int.reduceEq, not_false_eq_true, ne_eq, qb_in, qkW, qmW, qnW, true_and, and_true, or_self, true_or, or_true, and_self]; omega)) only [b76_0, b76_6, b76_11, b76_14, b76_15, b76_21, b76_32, b76_40, b76_51, b76_60, b76_70, b76_73, b76_81, qcall_l, qcall_r, qretn_l, qJ_s, qJ_n, qV0, qEx, ↓qif0, ↓zchk_pos, ↓reduceIte, qput, qWW, qmW, qkW, qnW, k0, Int.reduceLT, ne_eq, Int.reduceEq, not_false_eq_true, t1, t2, q32, a1, a2, Int.reduceTDiv, b1]
    have t10 : Int.tdiv z 10 = z / 10 := qtd z 10 (by omega)
    have hl0 : (L ++ [60]).length ≤ 151 := by rw [List.length_append]; show L.length + 1 ≤ 151; omega
    have app : ∀ K : List Int, L ++ [60] ++ K = L ++ 60 :: K := fun K => by rw [List.append_assoc]; rfl
    have un : ∀ (u i : Int) (x1 : zV), i < 4 → 0 ≤ i → 1 ≤ u → u ≤ 1000 → u ≤ z / 10 → zF_76 e 26 [vr F, x1, vi z, vi u, vi i] [] (qW S m0) = zF_76 e 26 [vr F, vu, vi z, vi (u * 10), vi (i + 1)] [] (qW S m0) := fun u i x1 h1 h2 h3 h4 h5 => by
      rw [b76_26]
      simp (config := { maxSteps := 2000000 }) (disch := first | omega | (simp only [Int.reduceEq, not_false_eq_true, ne_eq, qb_in, qkW, qmW, qnW, true_and, and_true, or_self, true_or, or_true, and_self]; done) | (simp only [Int.reduceEq, not_false_eq_true, ne_eq, qb_in, qkW, qmW, qnW, true_and, and_true, or_self, true_or, or_true, and_self]; omega)) only [b76_0, b76_6, b76_11, b76_14, b76_15, b76_21, b76_32, b76_40, b76_51, b76_60, b76_70, b76_73, b76_81, qcall_l, qcall_r, qretn_l, qJ_s, qJ_n, qV0, qEx, ↓qif0, ↓zchk_pos, ↓reduceIte, qput, qWW, qmW, qkW, qnW, if_pos h1, ne_eq, Int.reduceEq, not_false_eq_true, t10, q32, if_neg (show ¬ z / 10 < u by omega)]
    have ux : ∀ (u i : Int) (x1 : zV), (¬ i < 4 ∨ z / 10 < u) → 10 ≤ u → u ≤ 10000 → zF_76 e 26 [vr F, x1, vi z, vi u, vi i] [] (qW S m0) = zF_76 e 56 [vr F, vu, vi z, vi (u / 10), vu] [] (qW S m0) := fun u i x1 h1 h2 h3 => by
      have tu : Int.tdiv u 10 = u / 10 := qtd u 10 (by omega)
      rw [b76_26]
      by_cases c : i < 4
      · have c2 := h1.resolve_left fun q => q c
        simp (config := { maxSteps := 2000000 }) (disch := first | omega | (simp only [Int.reduceEq, not_false_eq_true, ne_eq, qb_in, qkW, qmW, qnW, true_and, and_true, or_self, true_or, or_true, and_self]; done) | (simp only [Int.reduceEq, not_false_eq_true, ne_eq, qb_in, qkW, qmW, qnW, true_and, and_true, or_self, true_or, or_true, and_self]; omega)) only [b76_0, b76_6, b76_11, b76_14, b76_15, b76_21, b76_32, b76_40, b76_51, b76_60, b76_70, b76_73, b76_81, qcall_l, qcall_r, qretn_l, qJ_s, qJ_n, qV0, qEx, ↓qif0, ↓zchk_pos, ↓reduceIte, qput, qWW, qmW, qkW, qnW, if_pos c, ne_eq, Int.reduceEq, not_false_eq_true, t10, tu, q32, if_pos c2]
      · simp (config := { maxSteps := 2000000 }) (disch := first | omega | (simp only [Int.reduceEq, not_false_eq_true, ne_eq, qb_in, qkW, qmW, qnW, true_and, and_true, or_self, true_or, or_true, and_self]; done) | (simp only [Int.reduceEq, not_false_eq_true, ne_eq, qb_in, qkW, qmW, qnW, true_and, and_true, or_self, true_or, or_true, and_self]; omega)) only [b76_0, b76_6, b76_11, b76_14, b76_15, b76_21, b76_32, b76_40, b76_51, b76_60, b76_70, b76_73, b76_81, qcall_l, qcall_r, qretn_l, qJ_s, qJ_n, qV0, qEx, ↓qif0, ↓zchk_pos, ↓reduceIte, qput, qWW, qmW, qkW, qnW, if_neg c, ne_eq, Int.reduceEq, not_false_eq_true, tu, q32]
    have start : zD (e + 1) 76 [vr F, vi 48, vi z] (qW S m) = zF_76 e 26 [vr F, vu, vi z, vi 1, vi 0] [] (qW S m0) := by
      simp (config := { maxSteps := 2000000 }) (disch := first | omega | (simp only [k0, qb_in, qkW, qmW, qnW, true_and, and_true, or_self, true_or, or_true, and_self]; done) | (simp only [k0, qb_in, qkW, qmW, qnW, true_and, and_true, or_self, true_or, or_true, and_self]; omega)) only [zD_76, b76_0, b76_6, b76_11, b76_14, b76_15, b76_21, b76_32, b76_40, b76_51, b76_60, b76_70, b76_73, b76_81, qcall_l, qcall_r, qretn_l, qJ_s, qJ_n, qV0, qEx, ↓qif0, ↓zchk_pos, ↓reduceIte, qput, qWW, qmW, qkW, qnW, k0, Int.reduceEq, r0]
    rw [start]
    unfold qza at hz
    unfold qdl
    by_cases z1 : z < 100
    · rw [if_pos z1, un 1 0 vu (by decide) (by decide) (by decide) (by decide) (by omega), ux (1 * 10) (0 + 1) vu (Or.inr (by omega)) (by decide) (by decide)]
      obtain ⟨m2, a1, a2, a3⟩ := e1 vu _ m0 f0 p0 (by omega)
      rw [app] at a2
      exact ⟨m2, a1, a2, a3⟩
    · rw [if_neg z1]
      by_cases z2 : z < 1000
      · rw [if_pos z2, un 1 0 vu (by decide) (by decide) (by decide) (by decide) (by omega), un (1 * 10) (0 + 1) vu (by decide) (by decide) (by decide) (by decide) (by omega), ux (1 * 10 * 10) (0 + 1 + 1) vu (Or.inr (by omega)) (by decide) (by decide)]
        obtain ⟨m2, a1, a2, a3⟩ := e2 vu _ m0 f0 p0 (by omega)
        rw [app] at a2
        exact ⟨m2, a1, a2, a3⟩
      · rw [if_neg z2]
        by_cases z3 : z < 10000
        · rw [if_pos z3, un 1 0 vu (by decide) (by decide) (by decide) (by decide) (by omega), un (1 * 10) (0 + 1) vu (by decide) (by decide) (by decide) (by decide) (by omega), un (1 * 10 * 10) (0 + 1 + 1) vu (by decide) (by decide) (by decide) (by decide) (by omega), ux (1 * 10 * 10 * 10) (0 + 1 + 1 + 1) vu (Or.inr (by omega)) (by decide) (by decide)]
          obtain ⟨m2, a1, a2, a3⟩ := e3 vu _ m0 f0 p0 (by omega)
          rw [app] at a2
          exact ⟨m2, a1, a2, a3⟩
        · rw [if_neg z3, un 1 0 vu (by decide) (by decide) (by decide) (by decide) (by omega), un (1 * 10) (0 + 1) vu (by decide) (by decide) (by decide) (by decide) (by omega), un (1 * 10 * 10) (0 + 1 + 1) vu (by decide) (by decide) (by decide) (by decide) (by omega), un (1 * 10 * 10 * 10) (0 + 1 + 1 + 1) vu (by decide) (by decide) (by decide) (by decide) (by omega), ux (1 * 10 * 10 * 10 * 10) (0 + 1 + 1 + 1 + 1) vu (Or.inl (by decide)) (by decide) (by decide)]
          obtain ⟨m2, a1, a2, a3⟩ := e4 vu _ m0 f0 p0 (by omega)
          rw [app] at a2
          exact ⟨m2, a1, a2, a3⟩
/-- what a tree's writing needs, under the frame of written cells -/
theorem qcr_w {F : Int} {m m' : Int → Int → Int} (h : qFw F m m') {x : qTree} (hw : qwf x) {i : Int} (hx : qcr m F x i) : qcr m' F x i := qcr_f (b := i + 1) (fun a j h1 h2 _ => by rw [h.1 a (by omega) (by omega)]) x hw i (by omega) hx
theorem s_writePart (d : Nat) (S : zS) (F i dep b fld : Int) (L K : List Int) (m : Int → Int → Int) (h : 2 ≤ d) (hF : qFk S F) (hp : qFp m F) (hL : qCl m F L) (hl : L.length + K.length + 2 ≤ 160) (hb : b = 0 ∨ b = 1) (hdep : 0 ≤ dep ∧ dep ≤ 100)
    (hn : ∀ (L1 : List Int) (m1 : Int → Int → Int), qFw F m m1 → qCl m1 F L1 → L1.length ≤ L.length + 1 → ∃ m2, zD (d - 1) 74 [vr F, vi i, vi (dep + 1)] (qW S m1) = some (.inl none, qW S m2) ∧ qCl m2 F (L1 ++ K) ∧ qFw F m1 m2) :
    ∃ m', zD d 75 [vr F, vi i, vi b, vi dep] (qW S m) = some (.inl none, qW S m') ∧ qCl m' F (L ++ qbk b K) ∧ qFw F m m' := by
  obtain ⟨e, rfl, h1⟩ := qd h
  have k0 := hF.1
  rw [show e + 1 - 1 = e by omega] at hn
  unfold qbk
  rcases hb with rfl | rfl
  · rw [if_pos rfl]
    obtain ⟨m1, r1, p1, f1⟩ := hn L m (qFw_r _ _) hL (by omega)
    refine ⟨m1, ?_, p1, f1⟩
    simp (config := { maxSteps := 2000000 }) (disch := first | omega | (simp only [k0, qb_in, qkW, qmW, qnW, true_and, and_true, or_self, true_or, or_true, and_self]; done) | (simp only [k0, qb_in, qkW, qmW, qnW, true_and, and_true, or_self, true_or, or_true, and_self]; omega)) only [zD_75, b75_0, b75_4, b75_10, b75_18, b75_22, b75_28, qcall_l, qcall_r, qretn_l, qJ_s, qJ_n, qV0, qEx, ↓qif0, ↓zchk_pos, ↓reduceIte, qput, qWW, qmW, qkW, qnW, k0, Int.reduceEq, q32, r1]
  · rw [if_neg (by decide)]
    obtain ⟨m0, r0, p0, f0⟩ := s_appendCell e S F 35 L m (by omega) hF hp hL (by omega)
    obtain ⟨m1, r1, p1, f1⟩ := hn _ m0 f0 p0 (by rw [List.length_append]; show L.length + 1 ≤ _; omega)
    obtain ⟨m2, r2, p2, f2⟩ := s_appendCell e S F 28 _ m1 (by omega) hF (qFp_w (qFp_w hp f0) f1) p1 (by rw [List.length_append, List.length_append]; show L.length + 1 + _ < 160; omega)
    refine ⟨m2, ?_, ?_, qFw_t f0 (qFw_t f1 f2)⟩
    · simp (config := { maxSteps := 2000000 }) (disch := first | omega | (simp only [k0, qb_in, qkW, qmW, qnW, true_and, and_true, or_self, true_or, or_true, and_self]; done) | (simp only [k0, qb_in, qkW, qmW, qnW, true_and, and_true, or_self, true_or, or_true, and_self]; omega)) only [zD_75, b75_0, b75_4, b75_10, b75_18, b75_22, b75_28, qcall_l, qcall_r, qretn_l, qJ_s, qJ_n, qV0, qEx, ↓qif0, ↓zchk_pos, ↓reduceIte, qput, qWW, qmW, qkW, qnW, k0, Int.reduceEq, q32, r0, r1, r2]
    · rw [show L ++ ([35] ++ K ++ [28]) = L ++ [35] ++ K ++ [28] by simp]
      exact p2
theorem s_writeNode (S : zS) (F b fld : Int) (hK : qK S) (hF : qFk S F) (hF2 : 3 ≤ F) (hfl : fld = 0 ∨ fld = 1) (hb : b ≤ 24) : ∀ x, qwf x → ∀ (d : Nat) (dep i : Int) (L : List Int) (m : Int → Int → Int), 2 * qsz x + 6 ≤ d → 0 ≤ dep → dep + qsz x ≤ 40 → qLt m → qFp m F → m F 8 = b → m F 3 = fld → qcr m F x i → 0 ≤ i ∧ i < b → qCl m F L → L.length + 5 * qsz x ≤ 155 →
    ∃ m', zD d 74 [vr F, vi i, vi dep] (qW S m) = some (.inl none, qW S m') ∧ qCl m' F (L ++ qpr fld x) ∧ qFw F m m' := by
  have k0 := hF.1
  have k2 := hF.2.2.1
  have k3 := hF.2.2.2.1
  have k4 := hF.2.2.2.2.1
  have k5 := hF.2.2.2.2.2.1
  refine q_ind (fun z hz d dep i L m hd hdep hdp hLt hp h8 h3 hx hi hL hl => ?_) fun o l r hj wl wr il ir d dep i L m hd hdep hdp hLt hp h8 h3 hx hi hL hl => ?_
  · obtain ⟨e, rfl, -⟩ := qd (show 1 + 1 ≤ d by omega)
    rw [qsz_a] at hl hdp
    obtain ⟨ia, ik⟩ := s_isAtom e S F b i (qAt z) m (by omega) hF hp h8 hb hi hz hx
    rw [show qat (qAt z) = 1 from rfl] at ia
    obtain ⟨m', r1, p1, f1⟩ := s_writeAtom e S F z L m (by omega) hK hLt hF hF2 hp hL hz (by omega)
    have hv : m (F + 3) i = if z < 0 then -1 - z else z := by
      rw [qcr_a] at hx
      by_cases c : z < 0
      · rw [if_pos c] at hx ⊢; exact hx.2
      · rw [if_neg c] at hx ⊢; exact hx.2
    have hc : i < m F 8 := by rw [h8]; exact hi.2
    have hp4 := hp.2.1
    have hp5 := hp.2.2.1
    refine ⟨m', ?_, p1, f1⟩
    rw [← ik, ← hv] at r1
    simp (config := { maxSteps := 2000000 }) (disch := first | omega | (simp only [k0, k2, k3, hp4, hp5, qb_in, qkW, qmW, qnW, true_and, and_true, or_self, true_or, or_true, and_self]; done) | (simp only [k0, k2, k3, hp4, hp5, qb_in, qkW, qmW, qnW, true_and, and_true, or_self, true_or, or_true, and_self]; omega)) only [zD_74, b74_0, b74_4, b74_12, b74_18, b74_19, b74_31, b74_34, b74_45, b74_48, b74_55, b74_61, b74_67, b74_80, b74_86, b74_99, b74_105, b74_108, b74_115, b74_121, b74_135, b74_140, b74_144, b74_150, b74_163, b74_169, b74_172, b74_186, b74_191, b74_195, b74_200, b74_203, b74_217, b74_222, b74_226, qcall_l, qcall_r, qretn_l, qJ_s, qJ_n, qV0, qEx, ↓qif0, ↓zchk_pos, ↓reduceIte, qput, qWW, qmW, qkW, qnW, k0, k2, k3, hp4, hp5, if_neg (show ¬ i < 0 by omega), if_pos hc, if_neg (show ¬ 40 < dep by omega), ia, Int.reduceEq, r1]
  · obtain ⟨e, rfl, -⟩ := qd (show 1 + 1 ≤ d by omega)
    have hx0 := hx
    have wo : qwf (qOp o l r) := by rw [qwf_o]; exact ⟨hj, wl, wr⟩
    obtain ⟨ia, ik⟩ := s_isAtom e S F b i (qOp o l r) m (by omega) hF hp h8 hb hi wo hx
    rw [show qat (qOp o l r) = 0 from rfl] at ia
    rw [show qkn (qOp o l r) = o from rfl] at ik
    rw [qsz_o] at hl hdp hd
    rw [qcr_o] at hx
    obtain ⟨x1, x2, x3, x4, x5, x6⟩ := hx
    obtain ⟨hp0, hp4, hp5, hp6, hp7, hp10⟩ := hp
    have hp : qFp m F := ⟨hp0, hp4, hp5, hp6, hp7, hp10⟩
    have hc : i < m F 8 := by rw [h8]; exact hi.2
    have zl := qsz_1 l wl
    have zr := qsz_1 r wr
    have pl := qpr_l fld l wl
    have prl := qpr_l fld r wr
    -- what the frame keeps
    have kl : ∀ {m1 : Int → Int → Int}, qFw F m m1 → qLt m1 ∧ qFp m1 F ∧ m1 F 8 = b ∧ m1 F 3 = fld ∧ qcr m1 F l (m (F + 4) i) ∧ qcr m1 F r (m (F + 5) i) ∧ m1 (F + 4) = m (F + 4) ∧ m1 (F + 5) = m (F + 5) := fun hf => ⟨fun q hq => by rw [hf.1 2 (by omega) (by omega)]; exact hLt q hq, qFp_w hp hf, by rw [hf.2 8 (by decide), h8], by rw [hf.2 3 (by decide), h3], qcr_w hf wl x5, qcr_w hf wr x6, hf.1 _ (by omega) (by omega), hf.1 _ (by omega) (by omega)⟩
    have nl : ∀ (d' : Nat) (K : List Int) (m1 : Int → Int → Int), 2 * qsz l + 6 ≤ d' → qFw F m m1 → qCl m1 F K → K.length + 5 * qsz l ≤ 155 → ∃ m2, zD d' 74 [vr F, vi (m (F + 4) i), vi (dep + 1)] (qW S m1) = some (.inl none, qW S m2) ∧ qCl m2 F (K ++ qpr fld l) ∧ qFw F m1 m2 := fun d' K m1 hd' hf hK1 hl1 => by
      obtain ⟨a1, a2, a3, a4, a5, a6, -⟩ := kl hf
      exact il d' (dep + 1) _ K m1 hd' (by omega) (by omega) a1 a2 a3 a4 a5 (by omega) hK1 hl1
    have nr : ∀ (d' : Nat) (K : List Int) (m1 : Int → Int → Int), 2 * qsz r + 6 ≤ d' → qFw F m m1 → qCl m1 F K → K.length + 5 * qsz r ≤ 155 → ∃ m2, zD d' 74 [vr F, vi (m (F + 5) i), vi (dep + 1)] (qW S m1) = some (.inl none, qW S m2) ∧ qCl m2 F (K ++ qpr fld r) ∧ qFw F m1 m2 := fun d' K m1 hd' hf hK1 hl1 => by
      obtain ⟨a1, a2, a3, a4, a5, a6, -⟩ := kl hf
      exact ir d' (dep + 1) _ K m1 hd' (by omega) (by omega) a1 a2 a3 a4 a6 (by omega) hK1 hl1
    have ac : ∀ (v : Int) (K : List Int) (m1 : Int → Int → Int), qFw F m m1 → qCl m1 F K → K.length < 160 → ∃ m2, zD e 73 [vr F, vi v] (qW S m1) = some (.inl none, qW S m2) ∧ qCl m2 F (K ++ [v]) ∧ qFw F m m2 := fun v K m1 hf hK1 hl1 => by
      obtain ⟨m2, a1, a2, a3⟩ := s_appendCell e S F v K m1 (by omega) hF (kl hf).2.1 hK1 hl1
      exact ⟨m2, a1, a2, qFw_t hf a3⟩
    rw [qpr_o]
    by_cases c1 : fld = 1 ∧ (o : Int) = 47
    · rw [if_pos c1]
      have ho : m (F + 2) i = 47 := by rw [ik]; exact c1.2
      have f3 : ¬ fld = 0 := by omega
      obtain ⟨m1, r1, p1, f1⟩ := ac 55 L m (qFw_r _ _) hL (by omega)
      obtain ⟨m2, r2, p2, f2⟩ := nl e _ m1 (by omega) f1 p1 (by rw [List.length_append]; show L.length + 1 + _ ≤ 155; omega)
      have f12 := qFw_t f1 f2
      obtain ⟨m3, r3, p3, f3'⟩ := ac 12 _ m2 f12 p2 (by rw [List.length_append, List.length_append]; show L.length + 1 + _ < 160; omega)
      obtain ⟨m4, r4, p4, f4⟩ := nr e _ m3 (by omega) f3' p3 (by rw [List.length_append, List.length_append, List.length_append]; show L.length + 1 + _ + 1 + _ ≤ 155; omega)
      have f34 := qFw_t f3' f4
      obtain ⟨m5, r5, p5, f5⟩ := ac 62 _ m4 f34 p4 (by rw [List.length_append, List.length_append, List.length_append, List.length_append]; show L.length + 1 + _ + 1 + _ < 160; omega)
      have g1 : m1 F 6 = F + 4 := (kl f1).2.1.2.2.2.1
      have g2 : m1 (F + 4) = m (F + 4) := (kl f1).2.2.2.2.2.2.1
      have g3 : m3 F 7 = F + 5 := (kl f3').2.1.2.2.2.2.1
      have g4 : m3 (F + 5) = m (F + 5) := (kl f3').2.2.2.2.2.2.2
      refine ⟨m5, ?_, ?_, f5⟩
      · simp (config := { maxSteps := 2000000 }) (disch := first | omega | (simp only [k0, k2, k4, k5, hp4, g1, g3, qb_in, qkW, qmW, qnW, true_and, and_true, or_self, true_or, or_true, and_self]; done) | (simp only [k0, k2, k4, k5, hp4, g1, g3, qb_in, qkW, qmW, qnW, true_and, and_true, or_self, true_or, or_true, and_self]; omega)) only [zD_74, b74_0, b74_4, b74_12, b74_18, b74_19, b74_31, b74_34, b74_45, b74_48, b74_55, b74_61, b74_67, b74_80, b74_86, b74_99, b74_105, b74_108, b74_115, b74_121, b74_135, b74_140, b74_144, b74_150, b74_163, b74_169, b74_172, b74_186, b74_191, b74_195, b74_200, b74_203, b74_217, b74_222, b74_226, qcall_l, qcall_r, qretn_l, qJ_s, qJ_n, qV0, qEx, ↓qif0, ↓zchk_pos, ↓reduceIte, qput, qWW, qmW, qkW, qnW, k0, k2, k4, k5, hp4, ho, h3, if_neg (show ¬ i < 0 by omega), if_pos hc, if_neg (show ¬ 40 < dep by omega), ia, Int.reduceEq, if_neg f3, r1, g1, g2, r2, r3, g3, g4, r4, r5, q32]
      · rw [show L ++ ([55] ++ qpr fld l ++ [12] ++ qpr fld r ++ [62]) = L ++ [55] ++ qpr fld l ++ [12] ++ qpr fld r ++ [62] by simp]
        exact p5
    · rw [if_neg c1]
      have bl := qbk_l (qnb fld o l 0) (qpr fld l)
      have br := qbk_l (qnb fld o r 1) (qpr fld r)
      have nbl := s_needsBrackets e S F b (m (F + 4) i) fld o 0 l m (by omega) hF hp h8 h3 hfl hb (by omega) wl x5 (Or.inl rfl)
      by_cases c2 : fld = 1 ∧ (o : Int) = 94
      · rw [if_pos c2]
        have ho : m (F + 2) i = 94 := by rw [ik]; exact c2.2
        rw [c2.2] at nbl bl ⊢
        have f3 : ¬ fld = 0 := by omega
        obtain ⟨m1, r1, p1, f1⟩ := s_writePart e S F (m (F + 4) i) dep (qnb fld 94 l 0) fld L (qpr fld l) m (by omega) hF hp hL (by omega) (qnb_r _ _ _ _) (by omega) (fun K m1 hf hK1 hl1 => nl (e - 1) K m1 (by omega) hf hK1 (by omega))
        obtain ⟨m2, r2, p2, f2⟩ := ac 24 _ m1 f1 p1 (by rw [List.length_append]; omega)
        obtain ⟨m3, r3, p3, f3'⟩ := nr e _ m2 (by omega) f2 p2 (by rw [List.length_append, List.length_append]; show L.length + _ + 1 + _ ≤ 155; omega)
        have f23 := qFw_t f2 f3'
        obtain ⟨m4, r4, p4, f4⟩ := ac 16 _ m3 f23 p3 (by rw [List.length_append, List.length_append, List.length_append]; show L.length + _ + 1 + _ < 160; omega)
        have g3 : m2 F 7 = F + 5 := (kl f2).2.1.2.2.2.2.1
        have g4 : m2 (F + 5) = m (F + 5) := (kl f2).2.2.2.2.2.2.2
        refine ⟨m4, ?_, ?_, f4⟩
        · simp (config := { maxSteps := 2000000 }) (disch := first | omega | (simp only [k0, k2, k4, k5, hp4, hp6, g3, qb_in, qkW, qmW, qnW, true_and, and_true, or_self, true_or, or_true, and_self]; done) | (simp only [k0, k2, k4, k5, hp4, hp6, g3, qb_in, qkW, qmW, qnW, true_and, and_true, or_self, true_or, or_true, and_self]; omega)) only [zD_74, b74_0, b74_4, b74_12, b74_18, b74_19, b74_31, b74_34, b74_45, b74_48, b74_55, b74_61, b74_67, b74_80, b74_86, b74_99, b74_105, b74_108, b74_115, b74_121, b74_135, b74_140, b74_144, b74_150, b74_163, b74_169, b74_172, b74_186, b74_191, b74_195, b74_200, b74_203, b74_217, b74_222, b74_226, qcall_l, qcall_r, qretn_l, qJ_s, qJ_n, qV0, qEx, ↓qif0, ↓zchk_pos, ↓reduceIte, qput, qWW, qmW, qkW, qnW, k0, k2, k4, k5, hp4, hp6, ho, h3, if_neg (show ¬ i < 0 by omega), if_pos hc, if_neg (show ¬ 40 < dep by omega), ia, Int.reduceEq, if_neg f3, nbl, r1, r2, g3, g4, r3, r4, q32]
        · rw [show L ++ (qbk (qnb fld 94 l 0) (qpr fld l) ++ [24] ++ qpr fld r ++ [16]) = L ++ qbk (qnb fld 94 l 0) (qpr fld l) ++ [24] ++ qpr fld r ++ [16] by simp]
          exact p4
      · rw [if_neg c2]
        obtain ⟨m1, r1, p1, f1⟩ := s_writePart e S F (m (F + 4) i) dep (qnb fld o l 0) fld L (qpr fld l) m (by omega) hF hp hL (by omega) (qnb_r _ _ _ _) (by omega) (fun K m1 hf hK1 hl1 => nl (e - 1) K m1 (by omega) hf hK1 (by omega))
        have cs := s_cellOfSign e (qW S m1) o (by omega)
        obtain ⟨m2, r2, p2, f2⟩ := ac (qcs o) _ m1 f1 p1 (by rw [List.length_append]; omega)
        obtain ⟨a1, a2, a3, a4, a5, a6, a7, a8⟩ := kl f2
        have nbr := s_needsBrackets e S F b (m (F + 5) i) fld o 1 r m2 (by omega) hF a2 a3 a4 hfl hb (by omega) wr a6 (Or.inr rfl)
        obtain ⟨m3, r3, p3, f3'⟩ := s_writePart e S F (m (F + 5) i) dep (qnb fld o r 1) fld _ (qpr fld r) m2 (by omega) hF a2 p2 (by rw [List.length_append, List.length_append]; show L.length + _ + 1 + _ + 2 ≤ 160; omega) (qnb_r _ _ _ _) (by omega) (fun K m3 hf hK1 hl1 => nr (e - 1) K m3 (by omega) (qFw_t f2 hf) hK1 (by
          rw [List.length_append, List.length_append] at hl1
          have : ([qcs o] : List Int).length = 1 := rfl
          omega))
        have g3 : m2 F 7 = F + 5 := a2.2.2.2.2.1
        refine ⟨m3, ?_, ?_, qFw_t f2 f3'⟩
        · by_cases c3 : fld = 0
          · simp (config := { maxSteps := 2000000 }) (disch := first | omega | (simp only [k0, k2, k4, k5, hp4, hp6, g3, qb_in, qkW, qmW, qnW, true_and, and_true, or_self, true_or, or_true, and_self]; done) | (simp only [k0, k2, k4, k5, hp4, hp6, g3, qb_in, qkW, qmW, qnW, true_and, and_true, or_self, true_or, or_true, and_self]; omega)) only [zD_74, b74_0, b74_4, b74_12, b74_18, b74_19, b74_31, b74_34, b74_45, b74_48, b74_55, b74_61, b74_67, b74_80, b74_86, b74_99, b74_105, b74_108, b74_115, b74_121, b74_135, b74_140, b74_144, b74_150, b74_163, b74_169, b74_172, b74_186, b74_191, b74_195, b74_200, b74_203, b74_217, b74_222, b74_226, qcall_l, qcall_r, qretn_l, qJ_s, qJ_n, qV0, qEx, ↓qif0, ↓zchk_pos, ↓reduceIte, qput, qWW, qmW, qkW, qnW, k0, k2, k4, k5, hp4, hp6, ik, h3, if_neg (show ¬ i < 0 by omega), if_pos hc, if_neg (show ¬ 40 < dep by omega), ia, Int.reduceEq, if_pos c3, nbl, r1, cs, r2, g3, a8, nbr, r3]
          · have c4 : ¬ (o : Int) = 47 := fun z => c1 ⟨by omega, z⟩
            have c5 : ¬ (o : Int) = 94 := fun z => c2 ⟨by omega, z⟩
            simp (config := { maxSteps := 2000000 }) (disch := first | omega | (simp only [k0, k2, k4, k5, hp4, hp6, g3, qb_in, qkW, qmW, qnW, true_and, and_true, or_self, true_or, or_true, and_self]; done) | (simp only [k0, k2, k4, k5, hp4, hp6, g3, qb_in, qkW, qmW, qnW, true_and, and_true, or_self, true_or, or_true, and_self]; omega)) only [zD_74, b74_0, b74_4, b74_12, b74_18, b74_19, b74_31, b74_34, b74_45, b74_48, b74_55, b74_61, b74_67, b74_80, b74_86, b74_99, b74_105, b74_108, b74_115, b74_121, b74_135, b74_140, b74_144, b74_150, b74_163, b74_169, b74_172, b74_186, b74_191, b74_195, b74_200, b74_203, b74_217, b74_222, b74_226, qcall_l, qcall_r, qretn_l, qJ_s, qJ_n, qV0, qEx, ↓qif0, ↓zchk_pos, ↓reduceIte, qput, qWW, qmW, qkW, qnW, k0, k2, k4, k5, hp4, hp6, ik, h3, if_neg (show ¬ i < 0 by omega), if_pos hc, if_neg (show ¬ 40 < dep by omega), ia, Int.reduceEq, if_neg c3, if_neg c4, if_neg c5, nbl, r1, cs, r2, g3, a8, nbr, r3]
        · rw [show L ++ (qbk (qnb fld o l 0) (qpr fld l) ++ [qcs o] ++ qbk (qnb fld o r 1) (qpr fld r)) = L ++ qbk (qnb fld o l 0) (qpr fld l) ++ [qcs o] ++ qbk (qnb fld o r 1) (qpr fld r) by simp]
          exact p3
