/-! Felt cells are read as a word: the reference. -/
def qvl (dg x : Int) : Int := if dg = 1 then qdo x else qlo x
theorem qvl_d {x v : Int} (hv : 0 ≤ v ∧ v ≤ 9) : (97 ≤ qlv x ∧ qlv x ≤ 106) ∧ Int.tmod (qlv x - 97 + 1) 10 = v ↔ qdo x = v := by
  have r := qlo_r x
  unfold qlv qdo
  by_cases c1 : qlo x = -1
  · rw [if_pos c1, if_neg (by omega), if_neg (by omega), if_pos c1]
    exact ⟨fun z => absurd z.1.1 (by decide), fun z => absurd z (by omega)⟩
  · rw [if_neg c1]
    by_cases c2 : 9 < qlo x
    · rw [if_pos c2]
      exact ⟨fun z => absurd z.1.2 (by omega), fun z => absurd z (by omega)⟩
    · rw [if_neg c2, Int.tmod_eq_emod_of_nonneg (by omega)]
      by_cases c3 : qlo x = 9
      · rw [if_pos c3]
        exact ⟨fun z => by have := z.2; omega, fun z => ⟨by omega, by omega⟩⟩
      · rw [if_neg c3, if_neg c1]
        exact ⟨fun z => by have := z.2; omega, fun z => ⟨by omega, by omega⟩⟩
theorem qvl_l {x v : Int} (hv : 0 ≤ v ∧ v < 26) : qlv x = v + 97 ↔ qlo x = v := by
  unfold qlv
  split <;> constructor <;> intro <;> omega
theorem r_soStep (e : Nat) (S : zS) (b j : Int) (W L : List Int) (P dg st bg mk : Int) (y2 y3 y4 y5 y8 : zV) (he : 2 ≤ e) (hK : qK S) (hP : qP (zm S)) (hx : qRx (zm S) W P dg st bg mk) (hW : (dg = 0 ∧ ∀ i, 0 ≤ i → i < (W.length : Int) → 0 ≤ qnth W i ∧ qnth W i < 26) ∨ (dg = 1 ∧ ∀ i, 0 ≤ i → i < (W.length : Int) → 0 ≤ qnth W i ∧ qnth W i ≤ 9)) (hk : qA (zm S) 67 L) (hl : L.length ≤ 16) (hw : W.length ≤ 10) (hb : 0 ≤ b) (hj : 0 ≤ j ∧ j < W.length) (hbj : b + 1 + j < L.length) :
    zF_283 e 84 [vr 37, vi b, y2, y3, y4, y5, vi 1, vi j, y8] [] S = zF_283 e 84 [vr 37, vi b, vu, vu, vu, vu, vi (if qvl dg (qnth L (b + 1 + j)) = qnth W j then 1 else 0), vi (j + 1), vu] [] S := by
  obtain ⟨a1, a2, a3, a4, a5, a6, a7⟩ := hx
  have p44 := P_37_44 hP
  have p35 := P_37_35 hP
  have cv := qA_n hk (b + 1 + j) (by omega) hbj
  obtain ⟨x, hx⟩ : ∃ x, qnth L (b + 1 + j) = x := ⟨_, rfl⟩
  rw [hx] at cv ⊢
  have wv := a7 j hj.1 hj.2
  obtain ⟨v, hv⟩ : ∃ v, qnth W j = v := ⟨_, rfl⟩
  rw [hv] at wv ⊢
  have lo := r_letterOf e S x he
  have lr : 0 ≤ qlv x ∧ qlv x < 123 := by
    have := qlo_r x
    unfold qlv
    split <;> omega
  obtain ⟨y, hy⟩ : ∃ y, qlv x = y := ⟨_, rfl⟩
  rw [hy] at lo lr
  have z1 : z32 (b + 1) = b + 1 := q32 (by omega)
  have z2 : z32 (b + 1 + j) = b + 1 + j := q32 (by omega)
  have z3 : z32 (j + 1) = j + 1 := q32 (by omega)
  have c0 : 0 ≤ b + 1 + j := by omega
  have c16 : b + 1 + j < 16 := by omega
  have c10 : j < 10 := by omega
  have ij := hj.1
  rw [b283_84]
  rcases hW with ⟨rfl, hW⟩ | ⟨rfl, hW⟩
  · have hvr := hW j hj.1 hj.2
    rw [hv] at hvr
    have wv : zm S 64 j = v + 97 := wv
    have q := qvl_l (x := x) hvr
    rw [hy] at q
    have qe : qvl 0 x = qlo x := rfl
    rw [qe]
    clear hW a7 hk
    by_cases c : y = v + 97
    · rw [if_pos (q.mp c)]
      simp (config := { maxSteps := 2000000 }) (disch := first | omega | (simp only [K_37 hK, K_67 hK, K_64 hK, p44, p35, z1, z2, c0, c16, ij, c10, qb_in, qkW, qmW, qnW, true_and, and_true, or_self, true_or, or_true, and_self]; done) | (simp only [K_37 hK, K_67 hK, K_64 hK, p44, p35, z1, z2, c0, c16, ij, c10, qb_in, qkW, qmW, qnW, true_and, and_true, or_self, true_or, or_true, and_self]; omega)) only [b283_0, b283_5, b283_14, b283_15, b283_22, b283_26, b283_27, b283_36, b283_43, b283_50, b283_54, b283_55, b283_62, b283_74, b283_78, b283_79, b283_93, b283_98, b283_112, b283_121, b283_130, b283_133, b283_149, b283_156, b283_160, b283_164, b283_176, b283_180, b283_181, b283_189, b283_192, b283_201, b283_217, b283_223, b283_228, b283_235, b283_246, b283_249, b283_252, b283_256, b283_257, qcall_l, qcall_r, qretn_l, qJ_s, qJ_n, qV0, qEx, ↓qif0, ↓zchk_pos, ↓reduceIte, qput, qWW, qmW, qkW, qnW, K_37 hK, K_67 hK, K_64 hK, a1, a4, p44, p35, if_pos hj.2, z1, z2, cv, lo, wv, if_pos c, z3, Int.reduceEq]
    · rw [if_neg (fun z => c (q.mpr z))]
      simp (config := { maxSteps := 2000000 }) (disch := first | omega | (simp only [K_37 hK, K_67 hK, K_64 hK, p44, p35, z1, z2, c0, c16, ij, c10, qb_in, qkW, qmW, qnW, true_and, and_true, or_self, true_or, or_true, and_self]; done) | (simp only [K_37 hK, K_67 hK, K_64 hK, p44, p35, z1, z2, c0, c16, ij, c10, qb_in, qkW, qmW, qnW, true_and, and_true, or_self, true_or, or_true, and_self]; omega)) only [b283_0, b283_5, b283_14, b283_15, b283_22, b283_26, b283_27, b283_36, b283_43, b283_50, b283_54, b283_55, b283_62, b283_74, b283_78, b283_79, b283_93, b283_98, b283_112, b283_121, b283_130, b283_133, b283_149, b283_156, b283_160, b283_164, b283_176, b283_180, b283_181, b283_189, b283_192, b283_201, b283_217, b283_223, b283_228, b283_235, b283_246, b283_249, b283_252, b283_256, b283_257, qcall_l, qcall_r, qretn_l, qJ_s, qJ_n, qV0, qEx, ↓qif0, ↓zchk_pos, ↓reduceIte, qput, qWW, qmW, qkW, qnW, K_37 hK, K_67 hK, K_64 hK, a1, a4, p44, p35, if_pos hj.2, z1, z2, cv, lo, wv, if_neg c, z3, Int.reduceEq]
  · have hvr := hW j hj.1 hj.2
    rw [hv] at hvr
    have wv : zm S 64 j = v + 48 := wv
    have q := qvl_d (x := x) hvr
    rw [hy] at q
    have qe : qvl 1 x = qdo x := rfl
    rw [qe]
    clear hW a7 hk
    have ri := r_in e y 97 106 S (by omega)
    have z4 : z32 (y - 97) = y - 97 := q32 (by omega)
    have z5 : z32 (y - 97 + 1) = y - 97 + 1 := q32 (by omega)
    have z6 : z32 (v + 48 - 48) = v := by rw [q32 (by omega)]; omega
    by_cases c : 97 ≤ y ∧ y ≤ 106
    · rw [qb_p c] at ri
      by_cases c2 : Int.tmod (y - 97 + 1) 10 = v
      · rw [if_pos (q.mp ⟨c, c2⟩)]
        simp (config := { maxSteps := 2000000 }) (disch := first | omega | (simp only [K_37 hK, K_67 hK, K_64 hK, p44, p35, z1, z2, c0, c16, ij, c10, qb_in, qkW, qmW, qnW, true_and, and_true, or_self, true_or, or_true, and_self]; done) | (simp only [K_37 hK, K_67 hK, K_64 hK, p44, p35, z1, z2, c0, c16, ij, c10, qb_in, qkW, qmW, qnW, true_and, and_true, or_self, true_or, or_true, and_self]; omega)) only [b283_0, b283_5, b283_14, b283_15, b283_22, b283_26, b283_27, b283_36, b283_43, b283_50, b283_54, b283_55, b283_62, b283_74, b283_78, b283_79, b283_93, b283_98, b283_112, b283_121, b283_130, b283_133, b283_149, b283_156, b283_160, b283_164, b283_176, b283_180, b283_181, b283_189, b283_192, b283_201, b283_217, b283_223, b283_228, b283_235, b283_246, b283_249, b283_252, b283_256, b283_257, qcall_l, qcall_r, qretn_l, qJ_s, qJ_n, qV0, qEx, ↓qif0, ↓zchk_pos, ↓reduceIte, qput, qWW, qmW, qkW, qnW, K_37 hK, K_67 hK, K_64 hK, a1, a4, p44, p35, if_pos hj.2, z1, z2, cv, lo, ri, z4, z5, z6, wv, if_pos c2, z3, Int.reduceEq, Int.reduceNe]
      · rw [if_neg (fun z => c2 (q.mpr z).2)]
        simp (config := { maxSteps := 2000000 }) (disch := first | omega | (simp only [K_37 hK, K_67 hK, K_64 hK, p44, p35, z1, z2, c0, c16, ij, c10, qb_in, qkW, qmW, qnW, true_and, and_true, or_self, true_or, or_true, and_self]; done) | (simp only [K_37 hK, K_67 hK, K_64 hK, p44, p35, z1, z2, c0, c16, ij, c10, qb_in, qkW, qmW, qnW, true_and, and_true, or_self, true_or, or_true, and_self]; omega)) only [b283_0, b283_5, b283_14, b283_15, b283_22, b283_26, b283_27, b283_36, b283_43, b283_50, b283_54, b283_55, b283_62, b283_74, b283_78, b283_79, b283_93, b283_98, b283_112, b283_121, b283_130, b283_133, b283_149, b283_156, b283_160, b283_164, b283_176, b283_180, b283_181, b283_189, b283_192, b283_201, b283_217, b283_223, b283_228, b283_235, b283_246, b283_249, b283_252, b283_256, b283_257, qcall_l, qcall_r, qretn_l, qJ_s, qJ_n, qV0, qEx, ↓qif0, ↓zchk_pos, ↓reduceIte, qput, qWW, qmW, qkW, qnW, K_37 hK, K_67 hK, K_64 hK, a1, a4, p44, p35, if_pos hj.2, z1, z2, cv, lo, ri, z4, z5, z6, wv, if_neg c2, z3, Int.reduceEq, Int.reduceNe]
    · rw [qb_n c] at ri
      rw [if_neg (fun z => c (q.mpr z).1)]
      simp (config := { maxSteps := 2000000 }) (disch := first | omega | (simp only [K_37 hK, K_67 hK, K_64 hK, p44, p35, z1, z2, c0, c16, ij, c10, qb_in, qkW, qmW, qnW, true_and, and_true, or_self, true_or, or_true, and_self]; done) | (simp only [K_37 hK, K_67 hK, K_64 hK, p44, p35, z1, z2, c0, c16, ij, c10, qb_in, qkW, qmW, qnW, true_and, and_true, or_self, true_or, or_true, and_self]; omega)) only [b283_0, b283_5, b283_14, b283_15, b283_22, b283_26, b283_27, b283_36, b283_43, b283_50, b283_54, b283_55, b283_62, b283_74, b283_78, b283_79, b283_93, b283_98, b283_112, b283_121, b283_130, b283_133, b283_149, b283_156, b283_160, b283_164, b283_176, b283_180, b283_181, b283_189, b283_192, b283_201, b283_217, b283_223, b283_228, b283_235, b283_246, b283_249, b283_252, b283_256, b283_257, qcall_l, qcall_r, qretn_l, qJ_s, qJ_n, qV0, qEx, ↓qif0, ↓zchk_pos, ↓reduceIte, qput, qWW, qmW, qkW, qnW, K_37 hK, K_67 hK, K_64 hK, a1, a4, p44, p35, if_pos hj.2, z1, z2, cv, lo, ri, z3, Int.reduceEq]
theorem r_soLoop (e : Nat) (S : zS) (b : Int) (W L : List Int) (P dg st bg mk : Int) (he : 2 ≤ e) (hK : qK S) (hP : qP (zm S)) (hx : qRx (zm S) W P dg st bg mk) (hW : (dg = 0 ∧ ∀ i, 0 ≤ i → i < (W.length : Int) → 0 ≤ qnth W i ∧ qnth W i < 26) ∨ (dg = 1 ∧ ∀ i, 0 ≤ i → i < (W.length : Int) → 0 ≤ qnth W i ∧ qnth W i ≤ 9)) (hk : qA (zm S) 67 L) (hl : L.length ≤ 16) (hw : W.length ≤ 10) (hb : 0 ≤ b) (hbj : b + 1 + W.length ≤ L.length) :
    ∀ (f : Nat) (j : Int) (y2 y3 y4 y5 y8 : zV), 0 ≤ j → j + f = W.length → ∃ u, zF_283 e 84 [vr 37, vi b, y2, y3, y4, y5, vi 1, vi j, y8] [] S = some (.inl (some (vi u)), S) ∧ (u = 0 ∨ u = 1) ∧ (u = 1 ↔ ∀ i, j ≤ i → i < (W.length : Int) → qvl dg (qnth L (b + 1 + i)) = qnth W i) := by
  have a1 := hx.1
  have lp0 : ∀ (j : Int) (y2 y3 y4 y5 y8 : zV), zF_283 e 84 [vr 37, vi b, y2, y3, y4, y5, vi 0, vi j, y8] [] S = some (.inl (some (vi 0)), S) := by
    intro j y2 y3 y4 y5 y8
    rw [b283_84]
    simp (config := { maxSteps := 2000000 }) (disch := first | omega | (simp only [K_37 hK, qb_in, qkW, qmW, qnW, true_and, and_true, or_self, true_or, or_true, and_self]; done) | (simp only [K_37 hK, qb_in, qkW, qmW, qnW, true_and, and_true, or_self, true_or, or_true, and_self]; omega)) only [b283_0, b283_5, b283_14, b283_15, b283_22, b283_26, b283_27, b283_36, b283_43, b283_50, b283_54, b283_55, b283_62, b283_74, b283_78, b283_79, b283_93, b283_98, b283_112, b283_121, b283_130, b283_133, b283_149, b283_156, b283_160, b283_164, b283_176, b283_180, b283_181, b283_189, b283_192, b283_201, b283_217, b283_223, b283_228, b283_235, b283_246, b283_249, b283_252, b283_256, b283_257, qcall_l, qcall_r, qretn_l, qJ_s, qJ_n, qV0, qEx, ↓qif0, ↓zchk_pos, ↓reduceIte, qput, qWW, qmW, qkW, qnW, K_37 hK, ite_self, Int.reduceLE, true_and, and_self]
  intro f
  induction f with
  | zero =>
    intro j y2 y3 y4 y5 y8 h1 h2
    refine ⟨1, ?_, Or.inr rfl, ⟨fun _ i i1 i2 => by omega, fun _ => rfl⟩⟩
    rw [b283_84]
    simp (config := { maxSteps := 2000000 }) (disch := first | omega | (simp only [K_37 hK, qb_in, qkW, qmW, qnW, true_and, and_true, or_self, true_or, or_true, and_self]; done) | (simp only [K_37 hK, qb_in, qkW, qmW, qnW, true_and, and_true, or_self, true_or, or_true, and_self]; omega)) only [b283_0, b283_5, b283_14, b283_15, b283_22, b283_26, b283_27, b283_36, b283_43, b283_50, b283_54, b283_55, b283_62, b283_74, b283_78, b283_79, b283_93, b283_98, b283_112, b283_121, b283_130, b283_133, b283_149, b283_156, b283_160, b283_164, b283_176, b283_180, b283_181, b283_189, b283_192, b283_201, b283_217, b283_223, b283_228, b283_235, b283_246, b283_249, b283_252, b283_256, b283_257, qcall_l, qcall_r, qretn_l, qJ_s, qJ_n, qV0, qEx, ↓qif0, ↓zchk_pos, ↓reduceIte, qput, qWW, qmW, qkW, qnW, K_37 hK, a1, if_neg (show ¬ j < (W.length : Int) by omega), Int.reduceLE, true_and, and_self]
  | succ f ih =>
    intro j y2 y3 y4 y5 y8 h1 h2
    have st := r_soStep e S b j W L P dg st bg mk y2 y3 y4 y5 y8 he hK hP hx hW hk hl hw hb ⟨h1, by omega⟩ (by omega)
    by_cases c : qvl dg (qnth L (b + 1 + j)) = qnth W j
    · rw [if_pos c] at st
      obtain ⟨u, r, hu, g⟩ := ih (j + 1) vu vu vu vu vu (by omega) (by omega)
      refine ⟨u, st.trans r, hu, g.trans ⟨fun z i i1 i2 => ?_, fun z i i1 i2 => z i (by omega) i2⟩⟩
      by_cases q : i = j
      · rw [q]; exact c
      · exact z i (by omega) i2
    · rw [if_neg c] at st
      exact ⟨0, st.trans (lp0 _ _ _ _ _ _), Or.inl rfl, ⟨fun z => absurd z (by decide), fun z => absurd (z j (Int.le_refl _) (by omega)) c⟩⟩
theorem r_soCopy (e : Nat) (S : zS) (b en c g a6 : Int) (L : List Int) (hK : qK S) (hP : qP (zm S)) (hk : qA (zm S) 67 L) (hl : L.length ≤ 16) (hb : 0 ≤ b) (hen : en ≤ L.length) :
    ∀ (f : Nat) (j : Int) (m : Int → Int → Int) (y5 y8 : zV), 0 ≤ j → b + j + f = en → qfr [68] [] (zm S) m → (∀ i, 0 ≤ i → i < j → m 68 i = qnth L (b + i)) →
      ∃ m', zF_283 e 195 [vr 37, vi b, vi en, vi c, vi g, y5, vi a6, vi (b + j), y8] [] (qW S m) = zF_283 e 223 [vr 37, vi b, vi en, vi c, vi g, vu, vi a6, vi en, vu] [] (qW S m') ∧ qfr [68] [] (zm S) m' ∧ ∀ i, 0 ≤ i → i < en - b → m' 68 i = qnth L (b + i) := by
  intro f
  induction f with
  | zero =>
    intro j m y5 y8 h1 h2 hf hv
    refine ⟨m, ?_, hf, fun i i1 i2 => hv i i1 (by omega)⟩
    rw [b283_195, show b + j = en by omega]
    simp (config := { maxSteps := 2000000 }) (disch := first | omega | (simp only [qb_in, qkW, qmW, qnW, true_and, and_true, or_self, true_or, or_true, and_self]; done) | (simp only [qb_in, qkW, qmW, qnW, true_and, and_true, or_self, true_or, or_true, and_self]; omega)) only [b283_0, b283_5, b283_14, b283_15, b283_22, b283_26, b283_27, b283_36, b283_43, b283_50, b283_54, b283_55, b283_62, b283_74, b283_78, b283_79, b283_93, b283_98, b283_112, b283_121, b283_130, b283_133, b283_149, b283_156, b283_160, b283_164, b283_176, b283_180, b283_181, b283_189, b283_192, b283_201, b283_217, b283_228, b283_235, b283_246, b283_249, b283_252, b283_256, b283_257, qcall_l, qcall_r, qretn_l, qJ_s, qJ_n, qV0, qEx, ↓qif0, ↓zchk_pos, ↓reduceIte, qput, qWW, qmW, qkW, qnW, if_neg (Int.lt_irrefl en)]
  | succ f ih =>
    intro j m y5 y8 h1 h2 hf hv
    have e44 : m 37 44 = 67 := by rw [hf.2 44 (by decide)]; exact P_37_44 hP
    have e47 : m 37 47 = 68 := by rw [hf.2 47 (by decide)]; exact P_37_47 hP
    have e67 : m 67 (b + j) = qnth L (b + j) := by rw [hf.1 67 (by decide) (by decide)]; exact qA_n hk (b + j) (by omega) (by omega)
    obtain ⟨x, hx⟩ : ∃ x, qnth L (b + j) = x := ⟨_, rfl⟩
    rw [hx] at e67
    have z1 : z32 (b + j - b) = j := by rw [q32 (by omega)]; omega
    have z2 : z32 (b + j + 1) = b + (j + 1) := by rw [q32 (by omega)]; omega
    obtain ⟨m', r, q⟩ := ih (j + 1) (qu m 68 j x) vu vu (by omega) (by omega) (qfr_t' hf (qfr_a m 68 j x (by decide) (by decide)) (fun _ h => h) (fun _ h => h)) (fun i i1 i2 => by
      rw [qu_row]
      show (if i = j then x else m 68 i) = _
      by_cases q : i = j
      · rw [if_pos q, q, hx]
      · rw [if_neg q]
        exact hv i i1 (by omega))
    refine ⟨m', ?_, q⟩
    have c0 : 0 ≤ b + j := by omega
    have c16 : b + j < 16 := by omega
    have d16 : j < 16 := by omega
    rw [b283_195]
    simp (config := { maxSteps := 2000000 }) (disch := first | omega | (simp only [K_37 hK, K_67 hK, K_68 hK, e44, e47, z1, c0, c16, d16, h1, qb_in, qkW, qmW, qnW, true_and, and_true, or_self, true_or, or_true, and_self]; done) | (simp only [K_37 hK, K_67 hK, K_68 hK, e44, e47, z1, c0, c16, d16, h1, qb_in, qkW, qmW, qnW, true_and, and_true, or_self, true_or, or_true, and_self]; omega)) only [b283_0, b283_5, b283_14, b283_15, b283_22, b283_26, b283_27, b283_36, b283_43, b283_50, b283_54, b283_55, b283_62, b283_74, b283_78, b283_79, b283_93, b283_98, b283_112, b283_121, b283_130, b283_133, b283_149, b283_156, b283_160, b283_164, b283_176, b283_180, b283_181, b283_189, b283_192, b283_201, b283_217, b283_228, b283_235, b283_246, b283_249, b283_252, b283_256, b283_257, qcall_l, qcall_r, qretn_l, qJ_s, qJ_n, qV0, qEx, ↓qif0, ↓zchk_pos, ↓reduceIte, qput, qWW, qmW, qkW, qnW, K_37 hK, K_67 hK, K_68 hK, if_pos (show b + j < en by omega), e44, e47, e67, z1, z2]
    exact r
def qyhd (L : List Int) (b en : Int) : Int := if b < en then qnth L b else 0
def qySo (T : Int → Int → Int) (N g : Int) (L : List Int) (b en : Int) (W : List Int) (dg : Int) : Prop :=
  if qyhd L b en = 60 ∨ qyhd L b en = 48 then ((qyhd L b en = 60 ↔ dg = 1) ∧ en - b - 1 = W.length ∧ ∀ i, 0 ≤ i → i < (W.length : Int) → qvl dg (qnth L (b + 1 + i)) = qnth W i)
  else b < en ∧ dg = 0 ∧ qrd T (fun j => qnth L (b + j)) (qbr T N g (fun j => qnth L (b + j)) (en - b)) (en - b) (en - b).toNat 0 [] = some W
theorem r_soLet (e : Nat) (S : zS) (b en c N g : Int) (T : Int → Int → Int) (W L : List Int) (P dg st bg mk : Int) (he : 5 ≤ e) (hK : qK S) (hP : qP (zm S)) (hx : qRx (zm S) W P dg st bg mk) (hW2 : W.length ≤ 10) (hc : qRc (zm S) c N T) (hT : qTok T N) (hk : qA (zm S) 67 L) (hl : L.length ≤ 16) (hb : 0 ≤ b ∧ b ≤ en ∧ en ≤ L.length) (hdg : dg = 0 ∨ dg = 1) (y5 y8 : zV) :
    ∃ m' u, zF_283 e 195 [vr 37, vi b, vi en, vi c, vi g, y5, vi (if b < en then 1 else 0), vi b, y8] [] S = some (.inl (some (vi u)), qW S m') ∧ qfr [68, 69] [] (zm S) m' ∧ (u = 0 ∨ u = 1) ∧ (u = 1 ↔ b < en ∧ dg = 0 ∧ qrd T (fun j => qnth L (b + j)) (qbr T N g (fun j => qnth L (b + j)) (en - b)) (en - b) (en - b).toNat 0 [] = some W) := by
  obtain ⟨m1, r1, f1, v1⟩ := r_soCopy e S b en c g (if b < en then 1 else 0) L hK hP hk hl hb.1 hb.2.2 (en - b).toNat 0 (zm S) y5 y8 (Int.le_refl _) (by omega) (qfr_r _ _ _) (fun i i1 i2 => by omega)
  rw [Int.add_zero, qWS] at r1
  have f1' : qfr [68, 69] [] (zm S) m1 := qfr_m f1 (by decide) (fun _ h => h)
  obtain ⟨a1, a2, a3, a4, a5, a6, a7⟩ := hx
  have w33 : m1 37 33 = dg := by rw [f1.2 33 (by decide), a4]
  rw [r1, b283_223]
  by_cases c1 : b < en
  · rw [if_pos c1]
    rcases hdg with rfl | rfl
    · have hc1 : qRc m1 c N T := by
        obtain ⟨q1, q2, q3, q4⟩ := hc
        refine ⟨q1, by rw [f1.1 39 (by decide) (by decide)]; exact q2, q3, ?_⟩
        rw [f1.1 41 (by decide) (by decide), f1.1 44 (by decide) (by decide), f1.1 45 (by decide) (by decide), f1.1 42 (by decide) (by decide), f1.1 43 (by decide) (by decide), f1.1 40 (by decide) (by decide)]
        exact q4
      have hP1 : qP m1 := qP_fr hP f1' (by decide)
      obtain ⟨m2, v, r2, f2, p2⟩ := r_readsRow e (qW S m1) c N g (en - b) T (fun j => qnth L (b + j)) he hK hP1 hc1 hT (fun j j1 j2 => v1 j j1 j2) ⟨by omega, by omega⟩
      have f2 : qfr [69] [] m1 m2 := f2
      have hP2 : qP m2 := qP_fr hP1 f2 (by decide)
      have fw : ∀ j, m2 37 j = zm S 37 j := fun j => by rw [f2.2 j (by simp), f1.2 j (by simp)]
      obtain ⟨u, r3, hu, g3⟩ := r_isSame e (qW S m2) v W.length P (qnth W) (by omega) hK hP2 ⟨by rw [qmW, fw, a1], by rw [qmW, fw, a2], fun j j1 j2 => by
        rw [qmW, f2.1 64 (by decide) (by decide), f1.1 64 (by decide) (by decide)]
        exact a7 j j1 j2⟩ ⟨by omega, by omega⟩
      have z1 : z32 (en - b) = en - b := q32 (by omega)
      refine ⟨m2, u, ?_, qfr_t' f1' f2 (by decide) (fun _ h => h), hu, g3.trans ⟨fun z => ?_, fun z => ?_⟩⟩
      · rcases hu with rfl | rfl <;> simp (config := { maxSteps := 2000000 }) (disch := first | omega | (simp only [K_37 hK, qb_in, qkW, qmW, qnW, true_and, and_true, or_self, true_or, or_true, and_self]; done) | (simp only [K_37 hK, qb_in, qkW, qmW, qnW, true_and, and_true, or_self, true_or, or_true, and_self]; omega)) only [b283_0, b283_5, b283_14, b283_15, b283_22, b283_26, b283_27, b283_36, b283_43, b283_50, b283_54, b283_55, b283_62, b283_74, b283_78, b283_79, b283_93, b283_98, b283_112, b283_121, b283_130, b283_133, b283_149, b283_156, b283_160, b283_164, b283_176, b283_180, b283_181, b283_189, b283_192, b283_201, b283_217, b283_223, b283_228, b283_235, b283_246, b283_249, b283_252, b283_256, b283_257, qcall_l, qcall_r, qretn_l, qJ_s, qJ_n, qV0, qEx, ↓qif0, ↓zchk_pos, ↓reduceIte, qput, qWW, qmW, qkW, qnW, K_37 hK, w33, z1, r2, r3, Int.reduceEq, Int.reduceLE, true_and, and_self]
      · obtain ⟨z1, z2⟩ := z
        refine ⟨c1, rfl, ?_⟩
        rcases p2 with ⟨-, q2⟩ | ⟨K, q1, q2, q3⟩
        · omega
        · rw [q1, qnth_x (K := K) (W := W) (by omega) fun i i1 i2 => ?_]
          have e1 := z2 i i1 (by omega)
          have e2 := qA_n q3 i i1 (by unfold qL9; rw [List.length_map]; exact i2)
          have e3 : qnth (qL9 K) i = qnth K i + 97 := by
            unfold qL9 qnth
            rw [List.getD_eq_getElem?_getD, List.getD_eq_getElem?_getD, List.getElem?_map, List.getElem?_eq_getElem (show i.toNat < K.length by omega)]
            rfl
          have e1 : m2 69 i = qnth W i + 97 := e1
          omega
      · obtain ⟨-, -, z3⟩ := z
        rcases p2 with ⟨q1, -⟩ | ⟨K, q1, q2, q3⟩
        · rw [q1] at z3
          exact absurd z3 (by simp)
        · rw [q1] at z3
          have z3 : K = W := Option.some.inj z3
          subst z3
          refine ⟨q2, fun i i1 i2 => ?_⟩
          have e2 := qA_n q3 i i1 (by unfold qL9; rw [List.length_map]; exact i2)
          have e3 : qnth (qL9 K) i = qnth K i + 97 := by
            unfold qL9 qnth
            rw [List.getD_eq_getElem?_getD, List.getD_eq_getElem?_getD, List.getElem?_map, List.getElem?_eq_getElem (show i.toNat < K.length by omega)]
            rfl
          show m2 69 i = _
          rw [e2, e3]
    · refine ⟨m1, 0, ?_, f1', Or.inl rfl, ⟨fun z => absurd z (by decide), fun z => absurd z.2.1 (by decide)⟩⟩
      simp (config := { maxSteps := 2000000 }) (disch := first | omega | (simp only [K_37 hK, qb_in, qkW, qmW, qnW, true_and, and_true, or_self, true_or, or_true, and_self]; done) | (simp only [K_37 hK, qb_in, qkW, qmW, qnW, true_and, and_true, or_self, true_or, or_true, and_self]; omega)) only [b283_0, b283_5, b283_14, b283_15, b283_22, b283_26, b283_27, b283_36, b283_43, b283_50, b283_54, b283_55, b283_62, b283_74, b283_78, b283_79, b283_93, b283_98, b283_112, b283_121, b283_130, b283_133, b283_149, b283_156, b283_160, b283_164, b283_176, b283_180, b283_181, b283_189, b283_192, b283_201, b283_217, b283_223, b283_228, b283_235, b283_246, b283_249, b283_252, b283_256, b283_257, qcall_l, qcall_r, qretn_l, qJ_s, qJ_n, qV0, qEx, ↓qif0, ↓zchk_pos, ↓reduceIte, qput, qWW, qmW, qkW, qnW, K_37 hK, w33, Int.reduceEq, Int.reduceLE, true_and, and_self]
  · rw [if_neg c1]
    refine ⟨m1, 0, ?_, f1', Or.inl rfl, ⟨fun z => absurd z (by decide), fun z => absurd z.1 c1⟩⟩
    simp (config := { maxSteps := 2000000 }) (disch := first | omega | (simp only [K_37 hK, qb_in, qkW, qmW, qnW, true_and, and_true, or_self, true_or, or_true, and_self]; done) | (simp only [K_37 hK, qb_in, qkW, qmW, qnW, true_and, and_true, or_self, true_or, or_true, and_self]; omega)) only [b283_0, b283_5, b283_14, b283_15, b283_22, b283_26, b283_27, b283_36, b283_43, b283_50, b283_54, b283_55, b283_62, b283_74, b283_78, b283_79, b283_93, b283_98, b283_112, b283_121, b283_130, b283_133, b283_149, b283_156, b283_160, b283_164, b283_176, b283_180, b283_181, b283_189, b283_192, b283_201, b283_217, b283_223, b283_228, b283_235, b283_246, b283_249, b283_252, b283_256, b283_257, qcall_l, qcall_r, qretn_l, qJ_s, qJ_n, qV0, qEx, ↓qif0, ↓zchk_pos, ↓reduceIte, qput, qWW, qmW, qkW, qnW, K_37 hK, Int.reduceLE, true_and, and_self]
theorem r_isReadSo (d : Nat) (S : zS) (b en c N g : Int) (T : Int → Int → Int) (W L : List Int) (P dg st bg mk : Int) (h : 6 ≤ d) (hK : qK S) (hP : qP (zm S)) (hx : qRx (zm S) W P dg st bg mk) (hW : qWk2 W dg st bg mk) (hc : qRc (zm S) c N T) (hT : qTok T N) (hk : qA (zm S) 67 L) (hl : L.length ≤ 16) (hb : 0 ≤ b ∧ b ≤ en ∧ en ≤ L.length) :
    ∃ m' u, zD d 283 [vr 37, vi b, vi en, vi c, vi g] S = some (.inl (some (vi u)), qW S m') ∧ qfr [68, 69] [] (zm S) m' ∧ (u = 0 ∨ u = 1) ∧ (u = 1 ↔ qySo T N g L b en W dg) := by
  obtain ⟨e, rfl, he⟩ := qd h
  have hWd : (dg = 0 ∧ ∀ i, 0 ≤ i → i < (W.length : Int) → 0 ≤ qnth W i ∧ qnth W i < 26) ∨ (dg = 1 ∧ ∀ i, 0 ≤ i → i < (W.length : Int) → 0 ≤ qnth W i ∧ qnth W i ≤ 9) := by
    rcases hW.2.2.1 with q | q
    · exact Or.inl q
    · exact Or.inr ⟨q.1, q.2.2.2⟩
  have hdg : dg = 0 ∨ dg = 1 := hWd.elim (fun q => Or.inl q.1) (fun q => Or.inr q.1)
  have hw10 := hW.1.2
  have a1 := hx.1
  have a4 := hx.2.2.2.1
  have p44 := P_37_44 hP
  have z1 : z32 (en - b) = en - b := q32 (by omega)
  have z2 : z32 (en - b - 1) = en - b - 1 := q32 (by omega)
  by_cases c1 : b < en
  · have v67 := qA_n hk b hb.1 (by omega)
    have hdv : qyhd L b en = qnth L b := if_pos c1
    unfold qySo
    rw [hdv]
    obtain ⟨x, hxx⟩ : ∃ x, qnth L b = x := ⟨_, rfl⟩
    rw [hxx] at v67 ⊢
    have b16 : b < 16 := by omega
    have b0 := hb.1
    by_cases c2 : x = 60 ∨ x = 48
    · rw [if_pos c2]
      by_cases c3 : (x = 60 ↔ dg = 1) ∧ en - b - 1 = W.length
      · obtain ⟨u, r, hu, gu⟩ := r_soLoop e S b W L P dg st bg mk (by omega) hK hP hx hWd hk hl hw10 hb.1 (by omega) W.length 0 vu vu vu vu vu (Int.le_refl _) (by omega)
        refine ⟨zm S, u, ?_, qfr_r _ _ _, hu, gu.trans ⟨fun z => ⟨c3.1, c3.2, z⟩, fun z => z.2.2⟩⟩
        rw [qWS]
        rcases c2 with rfl | rfl
        · have d1 : dg = 1 := c3.1.mp rfl
          rw [d1] at a4
          simp (config := { maxSteps := 2000000 }) (disch := first | omega | (simp only [K_37 hK, K_67 hK, p44, b0, b16, qb_in, qkW, qmW, qnW, true_and, and_true, or_self, true_or, or_true, and_self]; done) | (simp only [K_37 hK, K_67 hK, p44, b0, b16, qb_in, qkW, qmW, qnW, true_and, and_true, or_self, true_or, or_true, and_self]; omega)) only [zD_283, b283_0, b283_5, b283_14, b283_15, b283_22, b283_26, b283_27, b283_36, b283_43, b283_50, b283_54, b283_55, b283_62, b283_74, b283_78, b283_79, b283_93, b283_98, b283_112, b283_121, b283_130, b283_133, b283_149, b283_156, b283_160, b283_164, b283_176, b283_180, b283_181, b283_189, b283_192, b283_201, b283_217, b283_223, b283_228, b283_235, b283_246, b283_249, b283_252, b283_256, b283_257, qcall_l, qcall_r, qretn_l, qJ_s, qJ_n, qV0, qEx, ↓qif0, ↓zchk_pos, ↓reduceIte, qput, qWW, qmW, qkW, qnW, K_37 hK, K_67 hK, p44, if_pos c1, v67, a4, z1, z2, a1, if_pos c3.2, r, Int.reduceEq]
        · have d1 : dg = 0 := hdg.resolve_right fun q => absurd (c3.1.mpr q) (by decide)
          rw [d1] at a4
          simp (config := { maxSteps := 2000000 }) (disch := first | omega | (simp only [K_37 hK, K_67 hK, p44, b0, b16, qb_in, qkW, qmW, qnW, true_and, and_true, or_self, true_or, or_true, and_self]; done) | (simp only [K_37 hK, K_67 hK, p44, b0, b16, qb_in, qkW, qmW, qnW, true_and, and_true, or_self, true_or, or_true, and_self]; omega)) only [zD_283, b283_0, b283_5, b283_14, b283_15, b283_22, b283_26, b283_27, b283_36, b283_43, b283_50, b283_54, b283_55, b283_62, b283_74, b283_78, b283_79, b283_93, b283_98, b283_112, b283_121, b283_130, b283_133, b283_149, b283_156, b283_160, b283_164, b283_176, b283_180, b283_181, b283_189, b283_192, b283_201, b283_217, b283_223, b283_228, b283_235, b283_246, b283_249, b283_252, b283_256, b283_257, qcall_l, qcall_r, qretn_l, qJ_s, qJ_n, qV0, qEx, ↓qif0, ↓zchk_pos, ↓reduceIte, qput, qWW, qmW, qkW, qnW, K_37 hK, K_67 hK, p44, if_pos c1, v67, a4, z1, z2, a1, if_pos c3.2, r, Int.reduceEq]
      · have lp0 : zF_283 e 84 [vr 37, vi b, vu, vu, vu, vu, vi 0, vi 0, vu] [] S = some (.inl (some (vi 0)), S) := by
          rw [b283_84]
          simp (config := { maxSteps := 2000000 }) (disch := first | omega | (simp only [K_37 hK, qb_in, qkW, qmW, qnW, true_and, and_true, or_self, true_or, or_true, and_self]; done) | (simp only [K_37 hK, qb_in, qkW, qmW, qnW, true_and, and_true, or_self, true_or, or_true, and_self]; omega)) only [b283_0, b283_5, b283_14, b283_15, b283_22, b283_26, b283_27, b283_36, b283_43, b283_50, b283_54, b283_55, b283_62, b283_74, b283_78, b283_79, b283_93, b283_98, b283_112, b283_121, b283_130, b283_133, b283_149, b283_156, b283_160, b283_164, b283_176, b283_180, b283_181, b283_189, b283_192, b283_201, b283_217, b283_223, b283_228, b283_235, b283_246, b283_249, b283_252, b283_256, b283_257, qcall_l, qcall_r, qretn_l, qJ_s, qJ_n, qV0, qEx, ↓qif0, ↓zchk_pos, ↓reduceIte, qput, qWW, qmW, qkW, qnW, K_37 hK, ite_self, Int.reduceLE, true_and, and_self]
        refine ⟨zm S, 0, ?_, qfr_r _ _ _, Or.inl rfl, ⟨fun z => absurd z (by decide), fun z => absurd ⟨z.1, z.2.1⟩ c3⟩⟩
        rw [qWS]
        rcases c2 with rfl | rfl
        · rcases hdg with d1 | d1
          · rw [d1] at a4
            simp (config := { maxSteps := 2000000 }) (disch := first | omega | (simp only [K_37 hK, K_67 hK, p44, b0, b16, qb_in, qkW, qmW, qnW, true_and, and_true, or_self, true_or, or_true, and_self]; done) | (simp only [K_37 hK, K_67 hK, p44, b0, b16, qb_in, qkW, qmW, qnW, true_and, and_true, or_self, true_or, or_true, and_self]; omega)) only [zD_283, b283_0, b283_5, b283_14, b283_15, b283_22, b283_26, b283_27, b283_36, b283_43, b283_50, b283_54, b283_55, b283_62, b283_74, b283_78, b283_79, b283_93, b283_98, b283_112, b283_121, b283_130, b283_133, b283_149, b283_156, b283_160, b283_164, b283_176, b283_180, b283_181, b283_189, b283_192, b283_201, b283_217, b283_223, b283_228, b283_235, b283_246, b283_249, b283_252, b283_256, b283_257, qcall_l, qcall_r, qretn_l, qJ_s, qJ_n, qV0, qEx, ↓qif0, ↓zchk_pos, ↓reduceIte, qput, qWW, qmW, qkW, qnW, K_37 hK, K_67 hK, p44, if_pos c1, v67, a4, lp0, Int.reduceEq]
          · rw [d1] at a4
            have n3 : ¬ en - b - 1 = (W.length : Int) := fun q => c3 ⟨⟨fun _ => d1, fun _ => rfl⟩, q⟩
            simp (config := { maxSteps := 2000000 }) (disch := first | omega | (simp only [K_37 hK, K_67 hK, p44, b0, b16, qb_in, qkW, qmW, qnW, true_and, and_true, or_self, true_or, or_true, and_self]; done) | (simp only [K_37 hK, K_67 hK, p44, b0, b16, qb_in, qkW, qmW, qnW, true_and, and_true, or_self, true_or, or_true, and_self]; omega)) only [zD_283, b283_0, b283_5, b283_14, b283_15, b283_22, b283_26, b283_27, b283_36, b283_43, b283_50, b283_54, b283_55, b283_62, b283_74, b283_78, b283_79, b283_93, b283_98, b283_112, b283_121, b283_130, b283_133, b283_149, b283_156, b283_160, b283_164, b283_176, b283_180, b283_181, b283_189, b283_192, b283_201, b283_217, b283_223, b283_228, b283_235, b283_246, b283_249, b283_252, b283_256, b283_257, qcall_l, qcall_r, qretn_l, qJ_s, qJ_n, qV0, qEx, ↓qif0, ↓zchk_pos, ↓reduceIte, qput, qWW, qmW, qkW, qnW, K_37 hK, K_67 hK, p44, if_pos c1, v67, a4, z1, z2, a1, if_neg n3, lp0, Int.reduceEq]
        · rcases hdg with d1 | d1
          · rw [d1] at a4
            have n3 : ¬ en - b - 1 = (W.length : Int) := fun q => c3 ⟨⟨fun z => absurd z (by decide), fun z => by omega⟩, q⟩
            simp (config := { maxSteps := 2000000 }) (disch := first | omega | (simp only [K_37 hK, K_67 hK, p44, b0, b16, qb_in, qkW, qmW, qnW, true_and, and_true, or_self, true_or, or_true, and_self]; done) | (simp only [K_37 hK, K_67 hK, p44, b0, b16, qb_in, qkW, qmW, qnW, true_and, and_true, or_self, true_or, or_true, and_self]; omega)) only [zD_283, b283_0, b283_5, b283_14, b283_15, b283_22, b283_26, b283_27, b283_36, b283_43, b283_50, b283_54, b283_55, b283_62, b283_74, b283_78, b283_79, b283_93, b283_98, b283_112, b283_121, b283_130, b283_133, b283_149, b283_156, b283_160, b283_164, b283_176, b283_180, b283_181, b283_189, b283_192, b283_201, b283_217, b283_223, b283_228, b283_235, b283_246, b283_249, b283_252, b283_256, b283_257, qcall_l, qcall_r, qretn_l, qJ_s, qJ_n, qV0, qEx, ↓qif0, ↓zchk_pos, ↓reduceIte, qput, qWW, qmW, qkW, qnW, K_37 hK, K_67 hK, p44, if_pos c1, v67, a4, z1, z2, a1, if_neg n3, lp0, Int.reduceEq]
          · rw [d1] at a4
            simp (config := { maxSteps := 2000000 }) (disch := first | omega | (simp only [K_37 hK, K_67 hK, p44, b0, b16, qb_in, qkW, qmW, qnW, true_and, and_true, or_self, true_or, or_true, and_self]; done) | (simp only [K_37 hK, K_67 hK, p44, b0, b16, qb_in, qkW, qmW, qnW, true_and, and_true, or_self, true_or, or_true, and_self]; omega)) only [zD_283, b283_0, b283_5, b283_14, b283_15, b283_22, b283_26, b283_27, b283_36, b283_43, b283_50, b283_54, b283_55, b283_62, b283_74, b283_78, b283_79, b283_93, b283_98, b283_112, b283_121, b283_130, b283_133, b283_149, b283_156, b283_160, b283_164, b283_176, b283_180, b283_181, b283_189, b283_192, b283_201, b283_217, b283_223, b283_228, b283_235, b283_246, b283_249, b283_252, b283_256, b283_257, qcall_l, qcall_r, qretn_l, qJ_s, qJ_n, qV0, qEx, ↓qif0, ↓zchk_pos, ↓reduceIte, qput, qWW, qmW, qkW, qnW, K_37 hK, K_67 hK, p44, if_pos c1, v67, a4, lp0, Int.reduceEq]
    · rw [if_neg c2]
      obtain ⟨m', u, r, f, hu, gu⟩ := r_soLet e S b en c N g T W L P dg st bg mk (by omega) hK hP hx hw10 hc hT hk hl hb hdg vu vu
      rw [if_pos c1] at r
      refine ⟨m', u, ?_, f, hu, gu⟩
      simp (config := { maxSteps := 2000000 }) (disch := first | omega | (simp only [K_37 hK, K_67 hK, p44, b0, b16, qb_in, qkW, qmW, qnW, true_and, and_true, or_self, true_or, or_true, and_self]; done) | (simp only [K_37 hK, K_67 hK, p44, b0, b16, qb_in, qkW, qmW, qnW, true_and, and_true, or_self, true_or, or_true, and_self]; omega)) only [zD_283, b283_0, b283_5, b283_14, b283_15, b283_22, b283_26, b283_27, b283_36, b283_43, b283_50, b283_54, b283_55, b283_62, b283_74, b283_78, b283_79, b283_93, b283_98, b283_112, b283_121, b283_130, b283_133, b283_149, b283_156, b283_160, b283_164, b283_176, b283_180, b283_181, b283_189, b283_192, b283_201, b283_217, b283_223, b283_228, b283_235, b283_246, b283_249, b283_252, b283_256, b283_257, qcall_l, qcall_r, qretn_l, qJ_s, qJ_n, qV0, qEx, ↓qif0, ↓zchk_pos, ↓reduceIte, qput, qWW, qmW, qkW, qnW, K_37 hK, K_67 hK, p44, if_pos c1, v67, if_neg (fun q => c2 (Or.inl q)), if_neg (fun q => c2 (Or.inr q)), r]
  · have hdv : qyhd L b en = 0 := if_neg c1
    unfold qySo
    rw [hdv, if_neg (by decide)]
    obtain ⟨m', u, r, f, hu, gu⟩ := r_soLet e S b en c N g T W L P dg st bg mk (by omega) hK hP hx hw10 hc hT hk hl hb hdg vu vu
    rw [if_neg c1] at r
    refine ⟨m', u, ?_, f, hu, gu⟩
    simp (config := { maxSteps := 2000000 }) (disch := first | omega | (simp only [qb_in, qkW, qmW, qnW, true_and, and_true, or_self, true_or, or_true, and_self]; done) | (simp only [qb_in, qkW, qmW, qnW, true_and, and_true, or_self, true_or, or_true, and_self]; omega)) only [zD_283, b283_0, b283_5, b283_14, b283_15, b283_22, b283_26, b283_27, b283_36, b283_43, b283_50, b283_54, b283_55, b283_62, b283_74, b283_78, b283_79, b283_93, b283_98, b283_112, b283_121, b283_130, b283_133, b283_149, b283_156, b283_160, b283_164, b283_176, b283_180, b283_181, b283_189, b283_192, b283_201, b283_217, b283_223, b283_228, b283_235, b283_246, b283_249, b283_252, b283_256, b283_257, qcall_l, qcall_r, qretn_l, qJ_s, qJ_n, qV0, qEx, ↓qif0, ↓zchk_pos, ↓reduceIte, qput, qWW, qmW, qkW, qnW, if_neg c1, r, Int.reduceEq]
