/-! A word of a book becomes that at hand. -/
/-- a word in the reference's rows -/
def qWr (m : Int → Int → Int) (k : Int) (W : List Int) (dg st bg mk : Int) : Prop := m 55 k = st ∧ m 56 k = dg ∧ m 57 k = bg ∧ m 59 k = W.length ∧ m 60 k = mk ∧ ∀ j, 0 ≤ j → j < (W.length : Int) → m 58 (10 * k + j) = qnth W j + if dg = 1 then 48 else 97
theorem qWr_f {m m' : Int → Int → Int} {k : Int} {W : List Int} {dg st bg mk : Int} (h : qWr m k W dg st bg mk) (f : ∀ x, 55 ≤ x → x ≤ 60 → m' x = m x) : qWr m' k W dg st bg mk := by
  obtain ⟨h1, h2, h3, h4, h5, h6⟩ := h
  exact ⟨by rw [f 55 (by decide) (by decide), h1], by rw [f 56 (by decide) (by decide), h2], by rw [f 57 (by decide) (by decide), h3], by rw [f 59 (by decide) (by decide), h4], by rw [f 60 (by decide) (by decide), h5], fun j j1 j2 => by rw [f 58 (by decide) (by decide)]; exact h6 j j1 j2⟩
theorem qWk_l {W : List Int} {dg st bg mk : Int} (h : qWk2 W dg st bg mk) (hd : dg = 0 ∨ dg = 1) (j : Int) (j1 : 0 ≤ j) (j2 : j < W.length) : 48 ≤ (qnth W j + if dg = 1 then 48 else 97) ∧ (qnth W j + if dg = 1 then 48 else 97) < 123 := by
  obtain ⟨-, -, w3, -⟩ := h
  rcases w3 with ⟨q1, q2⟩ | ⟨q1, -, -, q2⟩
  · have := q2 j j1 j2
    rw [if_neg (by omega)]
    omega
  · have := q2 j j1 j2
    rw [if_pos q1]
    omega
theorem r_opens (d : Nat) (S : zS) (b w k c N g P : Int) (T : Int → Int → Int) (W : List Int) (dg st bg mk : Int) (h : 8 ≤ d) (hK : qK S) (hP : qP (zm S)) (hd : 0 ≤ zm S 37 12 ∧ zm S 37 12 ≤ 12) (hk : k = 80 * b + w) (hb : 0 ≤ b ∧ b < 4) (hw : 0 ≤ w ∧ w < 80) (hr : qWr (zm S) k W dg st bg mk) (hW : qWk2 W dg st bg mk)
    (h49 : zm S 49 b = c) (h50 : zm S 50 b = g) (hc : qRc (zm S) c N T) (hT : qTok T N) (hPw : qPw (zm S) W dg = P) :
    ∃ m', zD d 256 [vr 37, vi b, vi w] S = some (.inl none, qW S m') ∧ qKc m' (qwL T N g W P dg st bg (qmc mk)) ∧ m' 37 46 = (qwS T N g W P dg st bg).length ∧ qFd m' (qwC T N g W P dg) (qwU T N g W P dg) ∧ m' 37 43 = qwM T N g W P dg ∧ m' 37 38 = P ∧ qRx m' W P dg st bg mk ∧ qfr [64, 65, 66, 67, 68, 69] [32, 33, 34, 36, 37, 38, 40, 42, 43, 45, 46] (zm S) m' := by
  obtain ⟨e, rfl, he⟩ := qd h
  have hW0 := hW
  have hr0 := hr
  obtain ⟨w1, w2, w3, w4, w5, w6⟩ := hW
  obtain ⟨r1, r2, r3, r4, r5, r6⟩ := hr
  have hdg : dg = 0 ∨ dg = 1 := by
    rcases w3 with q | q
    · exact Or.inl q.1
    · exact Or.inr q.1
  have hst : 0 ≤ st ∧ st ≤ 1 := by omega
  have hdg2 : 0 ≤ dg ∧ dg ≤ 1 := by omega
  have hn : (W.length : Int) ≤ 10 ∧ 0 < (W.length : Int) := by omega
  have z1 : z32 (80 * b) = 80 * b := q32 (by omega)
  have z2 : z32 (80 * b + w) = k := by rw [q32 (by omega), hk]
  -- the heads
  obtain ⟨n, hnn⟩ : ∃ n : Int, (W.length : Int) = n := ⟨_, rfl⟩
  rw [hnn] at r4 hn
  have k0 : 0 ≤ k ∧ k < 320 := by omega
  have a24 : qu (zm S) 37 32 st 37 24 = 56 := by rw [qu_i _ _ _ _ _ (by decide)]; exact P_37_24 hP
  have a56 : qu (zm S) 37 32 st 56 k = dg := by rw [qu_o _ _ _ _ _ (by decide), r2]
  obtain ⟨M2, hM2⟩ : ∃ M, qu (qu (zm S) 37 32 st) 37 33 dg = M := ⟨_, rfl⟩
  have f2 : qfr [] [32, 33] (zm S) M2 := by
    rw [← hM2]
    exact qfr_t' (qfr_j _ 32 _ (by decide)) (qfr_j _ 33 _ (by decide)) (fun _ h => h) fun _ h => h
  have b25 : M2 37 25 = 57 := by rw [f2.2 25 (by decide)]; exact P_37_25 hP
  have b57 : M2 57 k = bg := by rw [f2.1 57 (by decide) (by decide), r3]
  have b27 : qu M2 37 34 bg 37 27 = 59 := by rw [qu_i _ _ _ _ _ (by decide), f2.2 27 (by decide)]; exact P_37_27 hP
  have b59 : qu M2 37 34 bg 59 k = n := by rw [qu_o _ _ _ _ _ (by decide), f2.1 59 (by decide) (by decide), r4]
  obtain ⟨M4, hM4⟩ : ∃ M, qu (qu M2 37 34 bg) 37 36 n = M := ⟨_, rfl⟩
  have f4 : qfr [] [32, 33, 34, 36] (zm S) M4 := by
    rw [← hM4]
    exact qfr_t' (qfr_t' (qfr_m f2 (fun _ h => h) (by decide)) (qfr_j M2 34 _ (by decide)) (fun _ h => h) fun _ h => h) (qfr_j _ 36 _ (by decide)) (fun _ h => h) fun _ h => h
  have b28 : M4 37 28 = 60 := by rw [f4.2 28 (by decide)]; exact P_37_28 hP
  have b60 : M4 60 k = mk := by rw [f4.1 60 (by decide) (by decide), r5]
  obtain ⟨M5, hM5⟩ : ∃ M, qu M4 37 37 mk = M := ⟨_, rfl⟩
  have f5 : qfr [] [32, 33, 34, 36, 37] (zm S) M5 := by
    rw [← hM5]
    exact qfr_t' (qfr_m f4 (fun _ h => h) (by decide)) (qfr_j M4 37 _ (by decide)) (fun _ h => h) fun _ h => h
  have s32 : M5 37 32 = st := by rw [← hM5, qu_i _ _ _ _ _ (by decide), ← hM4, qu_i _ _ _ _ _ (by decide), qu_i _ _ _ _ _ (by decide), ← hM2, qu_i _ _ _ _ _ (by decide), qu_s]
  have s33 : M5 37 33 = dg := by rw [← hM5, qu_i _ _ _ _ _ (by decide), ← hM4, qu_i _ _ _ _ _ (by decide), qu_i _ _ _ _ _ (by decide), ← hM2, qu_s]
  have s34 : M5 37 34 = bg := by rw [← hM5, qu_i _ _ _ _ _ (by decide), ← hM4, qu_i _ _ _ _ _ (by decide), qu_s]
  have s36 : M5 37 36 = n := by rw [← hM5, qu_i _ _ _ _ _ (by decide), ← hM4, qu_s]
  have s37 : M5 37 37 = mk := by rw [← hM5, qu_s]
  -- behind the letters
  have fin : ∀ (m : Int → Int → Int) (x : zV), (∀ y, y ≠ 64 → m y = M5 y) → (∀ j, 0 ≤ j → j < n → m 64 j = qnth W j + if dg = 1 then 48 else 97) → ∃ m', zF_256 e 94 [vr 37, vi b, vu, vi k, x] [] (qW S m) = some (.inl none, qW S m') ∧ qKc m' (qwL T N g W P dg st bg (qmc mk)) ∧ m' 37 46 = (qwS T N g W P dg st bg).length ∧ qFd m' (qwC T N g W P dg) (qwU T N g W P dg) ∧ m' 37 43 = qwM T N g W P dg ∧ m' 37 38 = P ∧ qRx m' W P dg st bg mk ∧ qfr [64, 65, 66, 67, 68, 69] [32, 33, 34, 36, 37, 38, 40, 42, 43, 45, 46] (zm S) m' := by
    intro m x g1 g2
    have fm : qfr [64] [32, 33, 34, 36, 37] (zm S) m := ⟨fun y y1 y2 => by rw [g1 y (by simpa using y2), f5.1 y y1 (by simp)], fun j hj => by rw [g1 37 (by decide), f5.2 j hj]⟩
    have hPm : qP m := qP_fr hP fm (by decide)
    have m37 : m 37 = M5 37 := g1 37 (by decide)
    have m12 : m 37 12 = zm S 37 12 := fm.2 12 (by decide)
    have fp := r_findsParts e (qW S m) (by omega) hK hPm (by show 0 ≤ m 37 36 ∧ m 37 36 ≤ 10; rw [m37, s36]; omega) (by show 0 ≤ m 37 12 ∧ m 37 12 ≤ 12; rw [m12]; exact hd)
    have eP : qpts m (m 37 33) (m 37 36) (m 64) = P := by
      rw [← hPw, m37, s33, s36]
      unfold qpts qPw
      rw [m12, fm.1 46 (by decide) (by decide), fm.1 47 (by decide) (by decide), fm.1 48 (by decide) (by decide), hnn]
      exact qfp_c _ _ _ (by omega) _ _ _ _ _ (fun q j j1 j2 => by
        rw [g2 j j1 j2, if_neg (by omega)]) _ _ _
    have fp : zD e 207 [vr 37] (qW S m) = some (.inl none, qW S (qu m 37 38 P)) := by
      rw [fp]
      show some (Sum.inl none, qW S (qu m 37 38 (qpts m (m 37 33) (m 37 36) (m 64)))) = _
      rw [eP]
    obtain ⟨M6, hM6⟩ : ∃ M, qu m 37 38 P = M := ⟨_, rfl⟩
    rw [hM6] at fp
    have f6 : qfr [64] [32, 33, 34, 36, 37, 38] (zm S) M6 := by
      rw [← hM6]
      exact qfr_t' (qfr_m fm (fun _ h => h) (by decide)) (qfr_j m 38 _ (by decide)) (fun _ h => h) fun _ h => h
    have hP6 : qP M6 := qP_fr hP f6 (by decide)
    have o37 : ∀ j, j ≠ 38 → M6 37 j = M5 37 j := fun j hj => by rw [← hM6, qu_i _ _ _ _ _ hj, m37]
    have x6 : qRx M6 W P dg st bg mk := ⟨by rw [o37 36 (by decide), s36, hnn], by rw [← hM6, qu_s], by rw [o37 32 (by decide), s32], by rw [o37 33 (by decide), s33], by rw [o37 34 (by decide), s34], by rw [o37 37 (by decide), s37], fun j j1 j2 => by rw [← hM6, qu_o _ _ _ _ _ (by decide)]; exact g2 j j1 (by omega)⟩
    have c6 : qRc M6 c N T := qRc_f hc fun x h1 h2 => f6.1 x (by omega) (by simp only [List.mem_cons, List.not_mem_nil, or_false]; omega)
    have e17 : M6 37 17 = 49 := by rw [f6.2 17 (by decide)]; exact P_37_17 hP
    have e18 : M6 37 18 = 50 := by rw [f6.2 18 (by decide)]; exact P_37_18 hP
    have e49 : M6 49 b = c := by rw [f6.1 49 (by decide) (by decide), h49]
    have e50 : M6 50 b = g := by rw [f6.1 50 (by decide) (by decide), h50]
    obtain ⟨m', rw', p1, p2, p3, p4, p5⟩ := r_writes e (qW S M6) c N g P dg st bg mk T W (by omega) hK hP6 c6 hT x6 w1 w2 (by
      rcases w3 with q | ⟨q1, q2, q3, q4⟩
      · exact Or.inl q
      · exact Or.inr ⟨q1, q2, by rw [← hPw, q1, qPw_1], q4⟩) w4 w5
    refine ⟨m', ?_, p1, p2, p3, p4, by rw [p5.2 38 (by decide)]; exact x6.2.1, qRx_f x6 p5 (by decide) (by decide), qfr_t' (qfr_m f6 (by decide) (by decide)) (qfr_m p5 (by decide) (by decide)) (fun _ h => h) fun _ h => h⟩
    rw [b256_94]
    simp (config := { maxSteps := 2000000 }) (disch := first | omega | (simp only [K_37 hK, K_49 hK, K_50 hK, e17, e18, qb_in, qkW, qmW, qnW, true_and, and_true, or_self, true_or, or_true, and_self]; done) | (simp only [K_37 hK, K_49 hK, K_50 hK, e17, e18, qb_in, qkW, qmW, qnW, true_and, and_true, or_self, true_or, or_true, and_self]; omega)) only [b256_0, b256_13, b256_29, b256_47, b256_69, b256_86, b256_94, b256_98, b256_114, qcall_l, qcall_r, qretn_l, qJ_s, qJ_n, qV0, qEx, ↓qif0, ↓zchk_pos, ↓reduceIte, qput, qWW, qmW, qkW, qnW, K_37 hK, K_49 hK, K_50 hK, fp, e17, e18, e49, e50, rw']
  have lp : ∀ (f i : Nat) (m : Int → Int → Int) (x : zV), (i : Int) + f = n → (∀ y, y ≠ 64 → m y = M5 y) → (∀ j, 0 ≤ j → j < (i : Int) → m 64 j = qnth W j + if dg = 1 then 48 else 97) → ∃ m', zF_256 e 60 [vr 37, vi b, x, vi k, vi (i : Int)] [] (qW S m) = some (.inl none, qW S m') ∧ qKc m' (qwL T N g W P dg st bg (qmc mk)) ∧ m' 37 46 = (qwS T N g W P dg st bg).length ∧ qFd m' (qwC T N g W P dg) (qwU T N g W P dg) ∧ m' 37 43 = qwM T N g W P dg ∧ m' 37 38 = P ∧ qRx m' W P dg st bg mk ∧ qfr [64, 65, 66, 67, 68, 69] [32, 33, 34, 36, 37, 38, 40, 42, 43, 45, 46] (zm S) m' := by
    intro f
    induction f with
    | zero =>
      intro i m x hi g1 g2
      obtain ⟨m', ra, rb⟩ := fin m (vi (i : Int)) g1 fun j j1 j2 => g2 j j1 (by omega)
      refine ⟨m', ?_, rb⟩
      have m36 : m 37 36 = n := by rw [g1 37 (by decide), s36]
      rw [b256_60]
      simp (config := { maxSteps := 2000000 }) (disch := first | omega | (simp only [K_37 hK, qb_in, qkW, qmW, qnW, true_and, and_true, or_self, true_or, or_true, and_self]; done) | (simp only [K_37 hK, qb_in, qkW, qmW, qnW, true_and, and_true, or_self, true_or, or_true, and_self]; omega)) only [b256_0, b256_13, b256_29, b256_47, b256_69, b256_86, b256_98, b256_114, qcall_l, qcall_r, qretn_l, qJ_s, qJ_n, qV0, qEx, ↓qif0, ↓zchk_pos, ↓reduceIte, qput, qWW, qmW, qkW, qnW, K_37 hK, m36, if_neg (show ¬ (i : Int) < n by omega)]
      exact ra
    | succ f ih =>
      intro i m x hi g1 g2
      have m36 : m 37 36 = n := by rw [g1 37 (by decide), s36]
      have m26 : m 37 26 = 58 := by rw [g1 37 (by decide), f5.2 26 (by decide)]; exact P_37_26 hP
      have m35 : m 37 35 = 64 := by rw [g1 37 (by decide), f5.2 35 (by decide)]; exact P_37_35 hP
      obtain ⟨v, hv⟩ : ∃ v, (qnth W (i : Int) + if dg = 1 then 48 else 97) = v := ⟨_, rfl⟩
      have vr := qWk_l hW0 hdg (i : Int) (by omega) (by omega)
      rw [hv] at vr
      have m58 : m 58 (10 * k + (i : Int)) = v := by rw [g1 58 (by decide), f5.1 58 (by decide) (by decide), r6 (i : Int) (by omega) (by omega), hv]
      have y1 : z32 (10 * k) = 10 * k := q32 (by omega)
      have y2 : z32 (10 * k + (i : Int)) = 10 * k + i := q32 (by omega)
      have y3 : v % 65536 = v := by omega
      obtain ⟨m', ra, rb⟩ := ih (i + 1) (qu m 64 (i : Int) v) vu (by omega) (fun y hy => by rw [qu_o _ _ _ _ _ hy, g1 y hy]) (fun j j1 j2 => by
        by_cases cj : j = (i : Int)
        · rw [cj, qu_s, hv]
        · rw [qu_i _ _ _ _ _ cj]
          exact g2 j j1 (by omega))
      refine ⟨m', ?_, rb⟩
      rw [b256_60]
      simp (config := { maxSteps := 2000000 }) (disch := first | omega | (simp only [K_37 hK, K_58 hK, K_64 hK, m36, m26, m35, y1, y2, m58, qb_in, qkW, qmW, qnW, true_and, and_true, or_self, true_or, or_true, and_self]; done) | (simp only [K_37 hK, K_58 hK, K_64 hK, m36, m26, m35, y1, y2, m58, qb_in, qkW, qmW, qnW, true_and, and_true, or_self, true_or, or_true, and_self]; omega)) only [b256_0, b256_13, b256_29, b256_47, b256_69, b256_86, b256_98, b256_114, qcall_l, qcall_r, qretn_l, qJ_s, qJ_n, qV0, qEx, ↓qif0, ↓zchk_pos, ↓reduceIte, qput, qWW, qmW, qkW, qnW, K_37 hK, K_58 hK, K_64 hK, m36, m26, m35, if_pos (show (i : Int) < n by omega), y1, y2, m58, y3, q32]
      exact ra
  obtain ⟨m', ra, rb⟩ := lp n.toNat 0 M5 (vi w) (by omega) (fun _ _ => rfl) (fun j j1 j2 => by omega)
  refine ⟨m', ?_, rb⟩
  have ra : zF_256 e 60 [vr 37, vi b, vi w, vi k, vi 0] [] (qW S M5) = _ := ra
  simp (config := { maxSteps := 2000000 }) (disch := first | omega | (simp only [K_37 hK, K_55 hK, K_56 hK, K_57 hK, K_59 hK, K_60 hK, z1, z2, P_37_23 hP, r1, a24, a56, hM2, b25, b57, b27, b59, hM4, b28, b60, qb_in, qkW, qmW, qnW, true_and, and_true, or_self, true_or, or_true, and_self]; done) | (simp only [K_37 hK, K_55 hK, K_56 hK, K_57 hK, K_59 hK, K_60 hK, z1, z2, P_37_23 hP, r1, a24, a56, hM2, b25, b57, b27, b59, hM4, b28, b60, qb_in, qkW, qmW, qnW, true_and, and_true, or_self, true_or, or_true, and_self]; omega)) only [zD_256, b256_0, b256_13, b256_29, b256_47, b256_69, b256_86, b256_98, b256_114, qcall_l, qcall_r, qretn_l, qJ_s, qJ_n, qV0, qEx, ↓qif0, ↓zchk_pos, ↓reduceIte, qput, qWW, qmW, qkW, qnW, K_37 hK, K_55 hK, K_56 hK, K_57 hK, K_59 hK, K_60 hK, z1, z2, P_37_23 hP, r1, a24, a56, hM2, b25, b57, b27, b59, hM4, b28, b60, hM5]
  exact ra
