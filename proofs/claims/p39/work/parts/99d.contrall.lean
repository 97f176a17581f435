/-! A contraction: both answer alike. -/
theorem qhwf_e {m m' : Int → Int → Int} (h1 : m' 54 = m 54) (h2 : m' 49 = m 49) (c : Int) : ∀ k, qhwf m' c k = qhwf m c k := by
  intro k
  induction k with
  | zero => rfl
  | succ k ih => rw [qhwf, qhwf, ih, h1, h2]
/-- what the reference writes for a contraction -/
def qMc (S S9 : zS) (M : Int → Int → Int) (c g p f s n K A : Int) (t : Int → Int) : Prop :=
  (∀ x, x ≠ 37 → (x < 39 ∨ 45 < x) → M x = zm S9 x) ∧ (M 37 2 = 0 ∧ M 37 0 = 0 ∧ ∀ j, j ≠ 0 → j ≠ 2 → M 37 j = zm S 37 j) ∧ (∀ i, M 39 i = if i = c then K + 1 else zm S 39 i) ∧ (∀ c' i k, 0 ≤ i → i ≤ 10 → 24 * c' + k ≠ A → qTm M c' i k = qTm (zm S) c' i k) ∧
    (qTm M c 0 K = n ∧ qTm M c 1 K = g ∧ qTm M c 2 K = p ∧ qTm M c 3 K = f ∧ qTm M c 4 K = s ∧ ∀ j, 0 ≤ j → j < n → qTm M c (5 + j) K = t j - 97)
theorem q_contrM (S S9 : zS) (mr : Int → Int → Int) (c g p f s n K A : Int) (t : Int → Int) (nb : 2 ≤ n ∧ n ≤ 6) (hA : 24 * c + K = A)
    (s37 : zm S9 37 = zm S 37) (l39 : ∀ x, 39 ≤ x → x ≤ 45 → zm S9 x = zm S x)
    (f1 : ∀ x, x ≠ 40 → mr x = qu (zm S9) 37 0 0 x) (f2 : ∀ i, mr 40 i = if 6 * A ≤ i ∧ i < 6 * A + n then t (i - 6 * A) else zm S9 40 i) :
    qMc S S9 (qu (qu (qu (qu (qu (qu (qu mr 37 2 0) 41 A n) 44 A g) 45 A p) 42 A f) 43 A s) 39 c (K + 1)) c g p f s n K A t := by
  obtain ⟨M, hM⟩ : ∃ M, qu (qu (qu (qu (qu (qu (qu mr 37 2 0) 41 A n) 44 A g) 45 A p) 42 A f) 43 A s) 39 c (K + 1) = M := ⟨_, rfl⟩
  rw [hM]
  have g1 : ∀ x, x ≠ 37 → (x < 39 ∨ 45 < x) → M x = zm S9 x := fun x x1 x2 => by rw [← hM, qu_o _ _ _ _ _ (by omega), qu_o _ _ _ _ _ (by omega), qu_o _ _ _ _ _ (by omega), qu_o _ _ _ _ _ (by omega), qu_o _ _ _ _ _ (by omega), qu_o _ _ _ _ _ (by omega), qu_o _ _ _ _ _ (by omega), f1 x (by omega), qu_o _ _ _ _ _ x1]
  have g37 : ∀ j, M 37 j = qu mr 37 2 0 37 j := fun j => by rw [← hM, qu_o _ _ _ _ _ (by decide), qu_o _ _ _ _ _ (by decide), qu_o _ _ _ _ _ (by decide), qu_o _ _ _ _ _ (by decide), qu_o _ _ _ _ _ (by decide), qu_o _ _ _ _ _ (by decide)]
  have g372 : M 37 2 = 0 := by rw [g37, qu_s]
  have g370 : M 37 0 = 0 := by rw [g37, qu_i _ _ _ _ _ (by decide), f1 37 (by decide), qu_s]
  have g37o : ∀ j, j ≠ 0 → j ≠ 2 → M 37 j = zm S 37 j := fun j j0 j2 => by rw [g37, qu_i _ _ _ _ _ j2, f1 37 (by decide), qu_i _ _ _ _ _ j0, s37]
  have row : ∀ x, 39 ≤ x → x ≤ 45 → x ≠ 40 → mr x = zm S x := fun x x1 x2 x3 => by rw [f1 x x3, qu_o _ _ _ _ _ (by omega), l39 x x1 x2]
  have g39 : ∀ i, M 39 i = if i = c then K + 1 else zm S 39 i := fun i => by
    rw [← hM]
    simp only [qu1, row 39 (by decide) (by decide) (by decide), if_pos, Int.reduceEq, if_false]
  have g41 : ∀ i, M 41 i = if i = A then n else zm S 41 i := fun i => by
    rw [← hM]
    simp only [qu1, row 41 (by decide) (by decide) (by decide), if_pos, Int.reduceEq, if_false]
  have g42 : ∀ i, M 42 i = if i = A then f else zm S 42 i := fun i => by
    rw [← hM]
    simp only [qu1, row 42 (by decide) (by decide) (by decide), if_pos, Int.reduceEq, if_false]
  have g43 : ∀ i, M 43 i = if i = A then s else zm S 43 i := fun i => by
    rw [← hM]
    simp only [qu1, row 43 (by decide) (by decide) (by decide), if_pos, Int.reduceEq, if_false]
  have g44 : ∀ i, M 44 i = if i = A then g else zm S 44 i := fun i => by
    rw [← hM]
    simp only [qu1, row 44 (by decide) (by decide) (by decide), if_pos, Int.reduceEq, if_false]
  have g45 : ∀ i, M 45 i = if i = A then p else zm S 45 i := fun i => by
    rw [← hM]
    simp only [qu1, row 45 (by decide) (by decide) (by decide), if_pos, Int.reduceEq, if_false]
  have g40 : ∀ i, M 40 i = if 6 * A ≤ i ∧ i < 6 * A + n then t (i - 6 * A) else zm S 40 i := fun i => by
    rw [← hM]
    simp only [qu1, Int.reduceEq, if_false]
    rw [f2 i, l39 40 (by decide) (by decide)]
  have eT : ∀ c' i k, 0 ≤ i → i ≤ 10 → 24 * c' + k ≠ A → qTm M c' i k = qTm (zm S) c' i k := fun c' i k i1 i2 hk => by
    unfold qTm
    by_cases i0 : i = 0
    · rw [if_pos i0, if_pos i0, g41, if_neg hk]
    by_cases j1 : i = 1
    · rw [if_neg i0, if_neg i0, if_pos j1, if_pos j1, g44, if_neg hk]
    by_cases j2 : i = 2
    · rw [if_neg i0, if_neg i0, if_neg j1, if_neg j1, if_pos j2, if_pos j2, g45, if_neg hk]
    by_cases j3 : i = 3
    · rw [if_neg i0, if_neg i0, if_neg j1, if_neg j1, if_neg j2, if_neg j2, if_pos j3, if_pos j3, g42, if_neg hk]
    by_cases j4 : i = 4
    · rw [if_neg i0, if_neg i0, if_neg j1, if_neg j1, if_neg j2, if_neg j2, if_neg j3, if_neg j3, if_pos j4, if_pos j4, g43, if_neg hk]
    · rw [if_neg i0, if_neg i0, if_neg j1, if_neg j1, if_neg j2, if_neg j2, if_neg j3, if_neg j3, if_neg j4, if_neg j4, g40, if_neg (by omega)]
  have T0 : qTm M c 0 K = n := by unfold qTm; rw [if_pos rfl, g41, if_pos hA]
  have T1 : qTm M c 1 K = g := by unfold qTm; rw [if_neg (by decide), if_pos rfl, g44, if_pos hA]
  have T2 : qTm M c 2 K = p := by unfold qTm; rw [if_neg (by decide), if_neg (by decide), if_pos rfl, g45, if_pos hA]
  have T3 : qTm M c 3 K = f := by unfold qTm; rw [if_neg (by decide), if_neg (by decide), if_neg (by decide), if_pos rfl, g42, if_pos hA]
  have T4 : qTm M c 4 K = s := by unfold qTm; rw [if_neg (by decide), if_neg (by decide), if_neg (by decide), if_neg (by decide), if_pos rfl, g43, if_pos hA]
  have T5 : ∀ j, 0 ≤ j → j < n → qTm M c (5 + j) K = t j - 97 := fun j j1 j2 => by
    unfold qTm
    rw [if_neg (by omega), if_neg (by omega), if_neg (by omega), if_neg (by omega), if_neg (by omega), hA, g40, if_pos (by omega), show 6 * A + (5 + j - 5) - 6 * A = j by omega]
  exact ⟨g1, ⟨g372, g370, g37o⟩, g39, eT, T0, T1, T2, T3, T4, T5⟩
theorem q_contrK (S S9 : zS) (M : Int → Int → Int) (c g p f s n K N a A : Int) (t : Int → Int) (hC : qRC S) (hT : qRT S) (hn : 103 ≤ N) (hN : (zn S : Int) = N) (n1 : (zn S9 : Int) = N + 2) (z1 : zc S9 = zc S + 2) (w1 : zw S9 = zw S + 12) (k1 : ∀ x, zk S9 x = if x = N + 1 then (0, 6) else if x = N then (23, 0) else zk S x)
    (h1 : 0 ≤ c ∧ c < zm S 37 4) (h2 : qcok0 n g p f s ∧ qslt t n) (hKK : zm S 39 c = K) (hK2 : K < 24) (ha : zm S 6 c = a) (hA : 24 * c + K = A)
    (v : zm S9 N 0 = N + 1 ∧ zm S9 N 1 = n ∧ zm S9 N 2 = g ∧ zm S9 N 3 = p ∧ zm S9 N 4 = f ∧ zm S9 N 5 = s ∧ ∀ j, 0 ≤ j → j < n → zm S9 (N + 1) j = t j - 97)
    (l1 : ∀ x, x < N ∧ x ≠ 102 → x ≠ 4 → x ≠ a → x ≠ a + 1 → zm S9 x = zm S x) (s41 : zm S9 4 1 = 0) (s4 : ∀ j, j ≠ 1 → zm S9 4 j = zm S 4 j)
    (ea : ∀ j, j ≠ 1 → zm S9 a j = zm S a j) (ea1 : zm S9 a 1 = K + 1) (eb : ∀ j, j ≠ K → zm S9 (a + 1) j = zm S (a + 1) j) (eb1 : zm S9 (a + 1) K = N) (hM : qMc S S9 M c g p f s n K A t) :
    qRC (qW S9 M) ∧ qRT (qW S9 M) ∧ qGw S (qW S9 M) 2 2 12 fun x j => x = 102 ∨ x = 4 ∧ j = 1 ∨ 39 ≤ x ∧ x ≤ 45 ∨ x = 37 ∧ (j = 0 ∨ j = 2) ∨ 103 ≤ x ∧ (zk S x = (22, 0) ∨ zk S x = (12, 24)) := by
  obtain ⟨g1, ⟨g372, g370, g37o⟩, g39, eT, T0, T1, T2, T3, T4, T5⟩ := hM
  have cy := fun i i1 i2 => qRC_1 hC (c := i) i1 i2
  have cN := fun i i1 i2 => (cy i i1 i2).2.1.2.2.2.1
  have nb : 2 ≤ n ∧ n ≤ 6 := h2.1.1
  have K0 : 0 ≤ K := by
    have := (cN c h1.1 h1.2).1
    omega
  have cyc := cy c h1.1 h1.2
  rw [ha, hKK] at cyc
  have ca : 103 ≤ a ∧ a + 5 ≤ N := by
    obtain ⟨-, -, -, -, -, -, -, -, -, q1, q2⟩ := cyc.1
    omega
  have lk : ∀ x, x < N → zk S9 x = zk S x := fun x hx => by rw [k1, if_neg (by omega), if_neg (by omega)]
  have ka : zk S a = (22, 0) := cyc.1.1
  have ka1 : zk S (a + 1) = (12, 24) := cyc.1.2.1
  have gc : qGc S (qW S9 M) a := ⟨by show zn S ≤ zn S9; omega, fun x hx => by rw [qkW]; exact lk x (by omega), ka, ka1, fun x x1 x2 x3 x4 => by rw [qmW, g1 x (by omega) (by omega), l1 x (by omega) (by omega) x3 x4]⟩
  have M6 : M 6 = zm S 6 := by rw [g1 6 (by decide) (by decide), l1 6 (by omega) (by decide) (by omega) (by omega)]
  have M4 : M 4 1 = 0 := by rw [g1 4 (by decide) (by decide), s41]
  have g374 : M 37 4 = zm S 37 4 := g37o 4 (by decide) (by decide)
  have fr := h2.1.2.2.2
  have mN : M N = zm S9 N := g1 N (by omega) (by omega)
  have mL : M (N + 1) = zm S9 (N + 1) := g1 (N + 1) (by omega) (by omega)
  have ma : M a = zm S9 a := g1 a (by omega) (by omega)
  have ma1 : M (a + 1) = zm S9 (a + 1) := g1 (a + 1) (by omega) (by omega)
  refine ⟨⟨?_, ?_, fun i i1 i2 => ?_, fun i k i1 i2 k2 => ?_, fun i i1 i2 => ?_⟩, ⟨?_, ?_, ?_, fun i i1 i2 => ?_⟩, ?_, ?_, ?_, fun x hx => ?_, fun x j hx he => ?_⟩
  · show M 3 2 = M 37 4
    rw [g374, g1 3 (by decide) (by decide), l1 3 (by omega) (by decide) (by omega) (by omega)]
    exact hC.1
  · show 0 ≤ M 37 4 ∧ M 37 4 ≤ 3
    rw [g374]
    exact hC.2.1
  · have i2 : i < M 37 4 := i2
    rw [g374] at i2
    show qCy (qW S9 M) (M 6 i) (M 39 i) (qTm M i)
    rw [M6, g39]
    by_cases q : i = c
    · rw [if_pos q, q, ha]
      refine qCy_n (x := N) (qCy_T cyc (by omega) fun i k i1 i2 k1 k2 => eT c i k i1 i2 (by omega)) gc (by omega) ⟨hN, by show N + 2 ≤ (zn S9 : Int); omega⟩ (fun j hj => ?_) ?_ (fun j hj => ?_) ?_ ?_ ⟨?_, ?_, ?_, ?_, ?_, ?_, ?_, ?_, ?_, fun j j1 j2 => ?_⟩ ⟨?_, ?_, ?_, ?_, ?_, fun j j1 j2 => ?_⟩ (by omega)
      · show M a j = _
        rw [ma, ea j hj]
      · show M a 1 = _
        rw [ma, ea1]
      · show M (a + 1) j = _
        rw [ma1, eb j hj]
      · show M (a + 1) K = _
        rw [ma1, eb1]
      · show M N 0 = _
        rw [mN]
        exact v.1
      · show zk S9 N = _
        rw [k1, if_neg (by omega), if_pos rfl]
      · show zk S9 (M N 0) = _
        rw [mN, v.1, k1, if_pos rfl]
      · show M N 1 = _
        rw [mN, T0]
        exact v.2.1
      · show M N 2 = _
        rw [mN, T1]
        exact v.2.2.1
      · show M N 3 = _
        rw [mN, T2]
        exact v.2.2.2.1
      · show M N 4 = _
        rw [mN, T3]
        exact v.2.2.2.2.1
      · show M N 5 = _
        rw [mN, T4]
        exact v.2.2.2.2.2.1
      · rw [T0]; omega
      · rw [T2]; exact h2.1.2.2.1
      · rw [T0] at j2
        show M (M N 0) j = _
        rw [mN, v.1, mL, T5 j j1 j2]
        exact v.2.2.2.2.2.2 j j1 j2
      · rw [T0]; exact nb
      · rw [T1]; exact h2.1.2.1
      · rw [T2]; exact h2.1.2.2.1
      · rw [T3]; exact ⟨fr.1.1, fr.1.2.1⟩
      · rw [T4]
        rcases fr.2 with z | z
        · rw [z]; decide
        · exact ⟨by omega, z.2.1⟩
      · rw [T0] at j2
        rw [T5 j j1 j2]
        have := h2.2 j j1 j2
        omega
    · rw [if_neg q]
      have cb := cN i i1 i2
      refine qCy_o (qCy_T (cy i i1 i2) cb.2 fun i' k a1 a2 k1 k2 => eT i i' k a1 a2 (by omega)) gc ?_
      rw [← ha]
      by_cases q2 : i < c
      · exact hC.2.2.2.1 i c i1 q2 h1.2
      · exact fun z => hC.2.2.2.1 c i h1.1 (by omega) i2 z.symm
  · have k2 : k < M 37 4 := k2
    rw [g374] at k2
    show M 6 i ≠ M 6 k
    rw [M6]
    exact hC.2.2.2.1 i k i1 i2 k2
  · have i1 : M 37 4 ≤ i := i1
    rw [g374] at i1
    show M 39 i = 0
    rw [g39, if_neg (by omega)]
    exact hC.2.2.2.2 i i1 i2
  · show M 4 1 = M 37 2
    rw [M4, g372]
  · show 0 ≤ M 37 2 ∧ M 37 2 ≤ 60
    rw [g372]
    decide
  · show ∀ i, i < M 37 2 → M 5 i = M 38 i
    rw [g1 5 (by decide) (by decide), g1 38 (by decide) (by decide), l1 5 (by omega) (by decide) (by omega) (by omega), l1 38 (by omega) (by decide) (by omega) (by omega)]
    rw [g372]
    exact fun i i2 => hT.2.2.1 i (by have := hT.2.1.1; omega)
  · have i2 : i < M 37 2 := i2
    omega
  · show (zn S9 : Int) = (zn S : Int) + (2 : Nat)
    omega
  · exact z1
  · exact w1
  · exact lk x (by omega)
  · show M x j = zm S x j
    have n1 : ¬ (103 ≤ x ∧ x = a) := fun z => he (Or.inr (Or.inr (Or.inr (Or.inr ⟨z.1, Or.inl (by rw [z.2]; exact ka)⟩))))
    have n2 : ¬ (103 ≤ x ∧ x = a + 1) := fun z => he (Or.inr (Or.inr (Or.inr (Or.inr ⟨z.1, Or.inr (by rw [z.2]; exact ka1)⟩))))
    have he0 : ¬ x = 102 := fun z => he (Or.inl z)
    have he1 : ¬ (x = 4 ∧ j = 1) := fun z => he (Or.inr (Or.inl z))
    have he2 : ¬ (39 ≤ x ∧ x ≤ 45) := fun z => he (Or.inr (Or.inr (Or.inl z)))
    have he3 : ¬ (x = 37 ∧ (j = 0 ∨ j = 2)) := fun z => he (Or.inr (Or.inr (Or.inr (Or.inl z))))
    by_cases c37 : x = 37
    · subst c37
      exact g37o j (by omega) (by omega)
    · rw [g1 x c37 (by omega)]
      by_cases c4 : x = 4
      · subst c4
        exact s4 j (by omega)
      · rw [l1 x (by omega) c4 (by omega) (by omega)]
theorem q_contraction (d : Nat) (S : zS) (c g p f s : Int) (h : 8 ≤ d) (hK : qK S) (hP : qP (zm S)) (hT : qRT S) (hC : qRC S) (hB : qBh S) (hn : 103 ≤ (zn S : Int)) :
    qAskN (fun S2 => qRC S2 ∧ qRT S2 ∧ qGw S S2 2 2 12 fun x j => x = 102 ∨ x = 4 ∧ j = 1 ∨ 39 ≤ x ∧ x ≤ 45 ∨ x = 37 ∧ (j = 0 ∨ j = 2) ∨ 103 ≤ x ∧ (zk S x = (22, 0) ∨ zk S x = (12, 24))) (fun S2 => ∃ m2, S2 = zbump (qW S m2) ∧ qFq S m2) S (zD d 119 [vr 3, vi c, vi g, vi p, vi f, vi s] S) (zD d 211 [vr 37, vi c, vi g, vi p, vi f, vi s]) qps3 := by
  by_cases hb : (0 ≤ c ∧ c < zm S 37 4) ∧ (qcok0 (zm S 37 2) g p f s ∧ qslt (zm S 38) (zm S 37 2)) ∧ ¬ zm S 39 c = 24 ∧ qhwf (zm S) c (zm S 37 16).toNat = 0
  · obtain ⟨h1, h2, h3, h4⟩ := hb
    obtain ⟨e, rfl, he⟩ := qd h
    have cy := fun i i1 i2 => qRC_1 hC (c := i) i1 i2
    have cN := fun i i1 i2 => (cy i i1 i2).2.1.2.2.2.1
    have hK2 := cN c h1.1 h1.2
    obtain ⟨S1, r1, n1, z1, w1, k1, v, m', e1, lo⟩ := s_contrGood e S c g p f s (zm S 37 2) (zm S 39 c) (zn S) (zm S 6 c) (zm S 38) (by omega) hK hP hT hC hB rfl hn rfl rfl h1 h2 rfl (by omega) h4 rfl
    generalize hN : (zn S : Int) = N at n1 k1 v e1 lo
    generalize hKK : zm S 39 c = K at *
    generalize hn2 : zm S 37 2 = n at *
    generalize ht2 : zm S 38 = t at *
    generalize ha : zm S 6 c = a at *
    have ca : 103 ≤ a ∧ a + 5 ≤ N := by
      obtain ⟨-, -, -, -, -, -, -, -, -, q1, q2⟩ := (cy c h1.1 h1.2).1
      rw [ha] at q1 q2
      omega
    refine Or.inl ⟨K, S1, r1, ⟨by rw [e1, qu_o _ _ _ _ _ (by omega), qu_o _ _ _ _ _ (by omega), qu_o _ _ _ _ _ (by omega), lo 1 (by omega)], fun x hx => by rw [k1, if_neg (by omega), if_neg (by omega)]⟩, fun o => ?_⟩
    obtain ⟨S9, h9, n9, c9, w9, k9, m9, o9⟩ := qo_ex S1 o
    rw [h9]
    have n1 : (zn S9 : Int) = N + 2 := by rw [n9]; exact n1
    have z1 : zc S9 = zc S + 2 := by rw [c9]; exact z1
    have w1 : zw S9 = zw S + 12 := by rw [w9]; exact w1
    have e1 : ∀ x, x ≠ 102 → zm S9 x = qu (qu (qu m' 4 1 0) (a + 1) K N) a 1 (K + 1) x := fun x hx => by rw [m9 x hx, e1]
    have l1 : ∀ x, x < N ∧ x ≠ 102 → x ≠ 4 → x ≠ a → x ≠ a + 1 → zm S9 x = zm S x := fun x x1 x2 x3 x4 => by rw [e1 x x1.2, qu_o _ _ _ _ _ x3, qu_o _ _ _ _ _ x4, qu_o _ _ _ _ _ x2, lo x x1.1]
    have lk : ∀ x, x < N → zk S9 x = zk S x := fun x hx => by rw [k9, k1, if_neg (by omega), if_neg (by omega)]
    have hK1 : qK S9 := qK_g hK hn (by rw [hN]; exact lk)
    have s37 : zm S9 37 = zm S 37 := l1 37 (by omega) (by decide) (by omega) (by omega)
    have s38 : zm S9 38 = t := by rw [l1 38 (by omega) (by decide) (by omega) (by omega), ht2]
    have s39 : zm S9 39 = zm S 39 := l1 39 (by omega) (by decide) (by omega) (by omega)
    have s41 : zm S9 4 1 = 0 := by rw [e1 4 (by decide), qu_o _ _ _ _ _ (by omega), qu_o _ _ _ _ _ (by omega), qu_s]
    have s4 : ∀ j, j ≠ 1 → zm S9 4 j = zm S 4 j := fun j hj => by rw [e1 4 (by decide), qu_o _ _ _ _ _ (by omega), qu_o _ _ _ _ _ (by omega), qu_i _ _ _ _ _ hj, lo 4 (by omega)]
    have hP1 : qP (zm S9) := hP.same fun q hq => by
      have n4 : (q.1 ≤ 102 ∧ q.1 ≠ 102) ∧ ¬ (q.1 = 4 ∧ q.2.1 = 1) := by
        revert q
        decide
      by_cases c4 : q.1 = 4
      · rw [c4]
        exact s4 _ fun z => n4.2 ⟨c4, z⟩
      · rw [l1 q.1 (by omega) c4 (by omega) (by omega)]
    have hw1 : qhwf (zm S9) c (zm S9 37 16).toNat = 0 := by
      rw [s37, qhwf_e (l1 54 (by omega) (by decide) (by omega) (by omega)) (l1 49 (by omega) (by decide) (by omega) (by omega))]
      exact h4
    have t2 := hT.2.1
    rw [hn2] at t2
    obtain ⟨mr, r2, f1, f2⟩ := r_contrGood e S9 c g p f s n K t (by omega) hK1 hP1 (by omega) (by rw [s37]; exact hC.2.1) (by rw [s37]; exact hB.2.1) (by rw [s37]; exact hn2) s38 (by
      have := hT.2.2.2
      rw [ht2, hn2] at this
      exact this) (by rw [s37]; exact h1) h2 (by rw [s39]; exact hKK) (by omega) hw1
    generalize hA : 24 * c + K = A at *
    have hM := q_contrM S S9 mr c g p f s n K A t h2.1.1 hA s37 (fun x x1 x2 => l1 x (by omega) (by omega) (by omega) (by omega)) f1 f2
    generalize hM2 : qu (qu (qu (qu (qu (qu (qu mr 37 2 0) 41 A n) 44 A g) 45 A p) 42 A f) 43 A s) 39 c (K + 1) = M at r2 hM
    refine ⟨qW S9 M, r2, hM.2.1.2.1, by show M 102 0 = o; rw [hM.1 102 (by decide) (by decide), o9], ?_⟩
    obtain ⟨v0, v1, v2, v3, v4, v5, v6⟩ := v
    have x0 : zm S9 N = zm S1 N := m9 N (by omega)
    exact q_contrK S S9 M c g p f s n K N a A t hC hT (by omega) hN n1 z1 w1 (fun x => by rw [k9, k1]) (by exact h1) h2 hKK (by omega) ha hA ⟨by rw [x0]; exact v0, by rw [x0]; exact v1, by rw [x0]; exact v2, by rw [x0]; exact v3, by rw [x0]; exact v4, by rw [x0]; exact v5, fun j j1 j2 => by rw [m9 (N + 1) (by omega)]; exact v6 j j1 j2⟩ l1 s41 s4
      (fun j hj => by rw [e1 a (by omega), qu_i _ _ _ _ _ hj, qu_o _ _ _ _ _ (by omega), qu_o _ _ _ _ _ (by omega), lo a (by omega)]) (by rw [e1 a (by omega), qu_s])
      (fun j hj => by rw [e1 (a + 1) (by omega), qu_o _ _ _ _ _ (by omega), qu_i _ _ _ _ _ hj, qu_o _ _ _ _ _ (by omega), lo (a + 1) (by omega)]) (by rw [e1 (a + 1) (by omega), qu_o _ _ _ _ _ (by omega), qu_s]) hM
  · obtain ⟨x, hx0, r1, r2⟩ := q_contrBad d S c g p f s (by omega) hK hP hT hC hB hb
    refine Or.inr ⟨x, 0, zbump S, zbump (qW S (qu (zm S) 37 0 (qps3 x))), r1, ⟨rfl, fun _ _ => rfl⟩, r2, by show qu (zm S) 37 0 (qps3 x) 37 0 = _; exact qu_s _ _ _ _, hx0, _, rfl, qFq_37x (qFq_r S) (qfr_j (A := []) (J := [0]) _ _ _ (by decide)) (by decide) (by decide)⟩
