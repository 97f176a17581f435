/-! A wish. -/
/-- what calls on copies, readers and wishes change: books and codes don't rest on it -/
def qEh (S : zS) (x j : Int) : Prop := x = 102 ∨ (10 ≤ x ∧ x ≤ 14) ∨ (x = 15 ∧ j = 2) ∨ x = 16 ∨ x = 17 ∨ (x = 3 ∧ (j = 9 ∨ j = 11 ∨ j = 13)) ∨ (x = 37 ∧ (j = 0 ∨ j = 3 ∨ j = 65 ∨ j = 73 ∨ j = 75 ∨ j = 76 ∨ j = 80)) ∨ (81 ≤ x ∧ x ≤ 94) ∨ (103 ≤ x ∧ ((zk S x).1 = 24 ∨ (zk S x).1 = 27 ∨ (zk S x).1 = 4 ∨ ((zk S x).1 = 3 ∧ (zk S (x - 1)).1 = 24) ∨ ((zk S x).1 = 20 ∧ j = 13) ∨ ((zk S x).1 = 0 ∧ (zk S x).2 = 3)))
theorem qHB1_m {S S' : zS} (h : qHB1 S) (a : qAg S S' (qEh S)) : qHB1 S' := by
  obtain ⟨⟨⟨hK, hP, hL, hn⟩, ⟨hC, d1, d2⟩, hY⟩, hBB⟩ := h
  have e16 : zm S' 37 16 = zm S 37 16 := a.2 37 16 (by omega) (by unfold qEh; omega)
  have e12 : zm S' 37 12 = zm S 37 12 := a.2 37 12 (by omega) (by unfold qEh; omega)
  have cn : 103 ≤ (zn S' : Int) := by have := a.1.1; omega
  have kP := qP_m hP a hn (fun x j q => by unfold qEh; omega)
  have kL := qLt_m hL a hn (fun j => by unfold qEh; omega)
  have kC := qRC_m hC a hn (fun x j q => by unfold qEh; omega)
  have kYb := qYb_k hY a hn (fun x j q => by have q := qfB_n q; unfold qEh; omega) (Int.le_of_eq (a.2 37 4 (by omega) (by unfold qEh; omega)).symm) (fun c _ _ => a.2 6 c (by omega) (by unfold qEh; omega))
  have kBB := qBB_m hY hBB a hn e16 (fun x j q => by unfold qfbn at q; unfold qEh; omega)
  exact ⟨⟨⟨qK_g hK hn a.1.2, kP, kL, cn⟩, ⟨kC, by omega, by omega⟩, kYb⟩, kBB⟩
/-- how many are equal to a number -/
def qcv (g : Int → Int) (b : Int) : Nat → Int
  | 0 => 0
  | k + 1 => qcv g b k + if g k = b then 1 else 0
theorem qcv_r (g : Int → Int) (b : Int) : ∀ k : Nat, 0 ≤ qcv g b k ∧ qcv g b k ≤ k := by
  intro k
  induction k with
  | zero => exact ⟨Int.le_refl _, Int.le_refl _⟩
  | succ k ih =>
    rw [qcv]
    split <;> omega
theorem qcv_c {f g : Int → Int} (b : Int) : ∀ k : Nat, (∀ i : Nat, i < k → g i = f i) → qcv g b k = qcv f b k := by
  intro k
  induction k with
  | zero => intro _; rfl
  | succ k ih =>
    intro h
    rw [qcv, qcv, ih fun i hi => h i (by omega), h k (by omega)]
theorem qwi_p (m : Int → Int → Int) (r b : Int) (i : Nat) (h : m 93 i = r ∧ m 94 i = b) : ∀ k : Nat, i < k → 0 ≤ qwi m r b k := by
  intro k
  induction k with
  | zero => intro hk; omega
  | succ k ih =>
    intro hk
    rw [qwi]
    by_cases c : m 93 k = r ∧ m 94 k = b
    · rw [if_pos c]; exact Int.natCast_nonneg k
    · rw [if_neg c]
      by_cases ck : i = k
      · subst ck; exact absurd h c
      · exact ih (by omega)
theorem s_countFor2 (d : Nat) (S : zS) (b : Int) (n : Nat) (h : 1 ≤ d) (hK : qK S) (hP : qP (zm S)) (h2 : zm S 15 2 = (n : Int)) (hn : n ≤ 30) : zD d 104 [vr 15, vi b] S = some (.inl (some (vi (qcv (zm S 17) b n))), S) := by
  obtain ⟨e, rfl, -⟩ := qd h
  have lp : ∀ (g i : Nat), i + g = n → zF_104 e 4 [vr 15, vi b, vi (qcv (zm S 17) b i), vi (i : Int)] [] S = some (.inl (some (vi (qcv (zm S 17) b n))), S) := by
    intro g
    induction g with
    | zero =>
      intro i hi
      obtain rfl : i = n := by omega
      rw [b104_4]
      simp (config := { maxSteps := 2000000 }) (disch := first | omega | (simp only [K_15 hK, qb_in, qkW, qmW, qnW, true_and, and_true, or_self, true_or, or_true, and_self]; done) | (simp only [K_15 hK, qb_in, qkW, qmW, qnW, true_and, and_true, or_self, true_or, or_true, and_self]; omega)) only [b104_0, b104_12, b104_22, b104_25, b104_31, qcall_l, qcall_r, qretn_l, qJ_s, qJ_n, qV0, qEx, ↓qif0, ↓zchk_pos, ↓reduceIte, qput, qWW, qmW, qkW, qnW, K_15 hK, h2, if_neg (show ¬ (i : Int) < i from Int.lt_irrefl _)]
    | succ g ih =>
      intro i hi
      have hlt : (i : Int) < n := Int.ofNat_lt.mpr (by omega)
      have hr := qcv_r (zm S 17) b i
      have r1 := ih (i + 1) (by omega)
      rw [qcv] at r1
      have z1 : z32 (qcv (zm S 17) b i + 1) = qcv (zm S 17) b i + 1 := q32 (by omega)
      rw [b104_4]
      by_cases c : zm S 17 i = b
      · rw [if_pos c] at r1
        simp (config := { maxSteps := 2000000 }) (disch := first | omega | (simp only [K_15 hK, K_17 hK, P_15_1 hP, qb_in, qkW, qmW, qnW, true_and, and_true, or_self, true_or, or_true, and_self]; done) | (simp only [K_15 hK, K_17 hK, P_15_1 hP, qb_in, qkW, qmW, qnW, true_and, and_true, or_self, true_or, or_true, and_self]; omega)) only [b104_0, b104_12, b104_22, b104_25, b104_31, qcall_l, qcall_r, qretn_l, qJ_s, qJ_n, qV0, qEx, ↓qif0, ↓zchk_pos, ↓reduceIte, qput, qWW, qmW, qkW, qnW, K_15 hK, K_17 hK, P_15_1 hP, h2, if_pos hlt, if_pos c, z1, z32_s i (by omega), r1]
      · rw [if_neg c, Int.add_zero] at r1
        simp (config := { maxSteps := 2000000 }) (disch := first | omega | (simp only [K_15 hK, K_17 hK, P_15_1 hP, qb_in, qkW, qmW, qnW, true_and, and_true, or_self, true_or, or_true, and_self]; done) | (simp only [K_15 hK, K_17 hK, P_15_1 hP, qb_in, qkW, qmW, qnW, true_and, and_true, or_self, true_or, or_true, and_self]; omega)) only [b104_0, b104_12, b104_22, b104_25, b104_31, qcall_l, qcall_r, qretn_l, qJ_s, qJ_n, qV0, qEx, ↓qif0, ↓zchk_pos, ↓reduceIte, qput, qWW, qmW, qkW, qnW, K_15 hK, K_17 hK, P_15_1 hP, h2, if_pos hlt, if_neg c, z32_s i (by omega), r1]
  have r1 := lp n 0 (by omega)
  have r1 : zF_104 e 4 [vr 15, vi b, vi 0, vi 0] [] S = _ := r1
  simp (config := { maxSteps := 2000000 }) (disch := first | omega | (simp only [qb_in, qkW, qmW, qnW, true_and, and_true, or_self, true_or, or_true, and_self]; done) | (simp only [qb_in, qkW, qmW, qnW, true_and, and_true, or_self, true_or, or_true, and_self]; omega)) only [zD_104, b104_0, b104_12, b104_22, b104_25, b104_31, qcall_l, qcall_r, qretn_l, qJ_s, qJ_n, qV0, qEx, ↓qif0, ↓zchk_pos, ↓reduceIte, qput, qWW, qmW, qkW, qnW]
  exact r1
theorem r_wishCount (e : Nat) (S : zS) (m : Int → Int → Int) (b : Int) (n : Nat) (x1 x3 x4 : zV) (hK : qK S) (h80 : m 37 80 = (n : Int)) (h82 : m 37 82 = 94) (hn : n ≤ 30) :
    ∀ (g i : Nat) (x1 : zV), i + g = n → zF_296 e 133 [vr 37, x1, vi b, x3, x4, vi (qcv (m 94) b i), vi (i : Int)] [] (qW S m) = some (.inl (some (vi (qcv (m 94) b n))), qW S m) := by
  intro g
  induction g generalizing x3 x4 with
  | zero =>
    intro i x1 hi
    obtain rfl : i = n := by omega
    rw [b296_133]
    simp (config := { maxSteps := 2000000 }) (disch := first | omega | (simp only [K_37 hK, qb_in, qkW, qmW, qnW, true_and, and_true, or_self, true_or, or_true, and_self]; done) | (simp only [K_37 hK, qb_in, qkW, qmW, qnW, true_and, and_true, or_self, true_or, or_true, and_self]; omega)) only [b296_0, b296_5, b296_8, b296_13, b296_16, b296_20, b296_21, b296_26, b296_32, b296_35, b296_41, b296_45, b296_51, b296_54, b296_63, b296_67, b296_68, b296_75, b296_79, b296_84, b296_88, b296_89, b296_92, b296_95, b296_97, b296_115, b296_130, b296_142, b296_155, b296_159, b296_160, b296_169, qcall_l, qcall_r, qretn_l, qJ_s, qJ_n, qV0, qEx, ↓qif0, ↓zchk_pos, ↓reduceIte, qput, qWW, qmW, qkW, qnW, K_37 hK, h80, if_neg (show ¬ (i : Int) < i from Int.lt_irrefl _)]
  | succ g ih =>
    intro i x1 hi
    have hlt : (i : Int) < n := Int.ofNat_lt.mpr (by omega)
    have hr := qcv_r (m 94) b i
    have r1 := ih vu vu (i + 1) vu (by omega)
    rw [qcv] at r1
    have z1 : z32 (qcv (m 94) b i + 1) = qcv (m 94) b i + 1 := q32 (by omega)
    have z0 : z32 (qcv (m 94) b i + 0) = qcv (m 94) b i := by rw [q32 (by omega), Int.add_zero]
    rw [b296_133]
    by_cases c : m 94 i = b
    · rw [if_pos c] at r1
      simp (config := { maxSteps := 2000000 }) (disch := first | omega | (simp only [K_37 hK, K_94 hK, h82, qb_in, qkW, qmW, qnW, true_and, and_true, or_self, true_or, or_true, and_self]; done) | (simp only [K_37 hK, K_94 hK, h82, qb_in, qkW, qmW, qnW, true_and, and_true, or_self, true_or, or_true, and_self]; omega)) only [b296_0, b296_5, b296_8, b296_13, b296_16, b296_20, b296_21, b296_26, b296_32, b296_35, b296_41, b296_45, b296_51, b296_54, b296_63, b296_67, b296_68, b296_75, b296_79, b296_84, b296_88, b296_89, b296_92, b296_95, b296_97, b296_115, b296_130, b296_142, b296_155, b296_159, b296_160, b296_169, qcall_l, qcall_r, qretn_l, qJ_s, qJ_n, qV0, qEx, ↓qif0, ↓zchk_pos, ↓reduceIte, qput, qWW, qmW, qkW, qnW, K_37 hK, K_94 hK, h80, h82, if_pos hlt, if_pos c, z1, z32_s i (by omega), r1]
    · rw [if_neg c, Int.add_zero] at r1
      simp (config := { maxSteps := 2000000 }) (disch := first | omega | (simp only [K_37 hK, K_94 hK, h82, qb_in, qkW, qmW, qnW, true_and, and_true, or_self, true_or, or_true, and_self]; done) | (simp only [K_37 hK, K_94 hK, h82, qb_in, qkW, qmW, qnW, true_and, and_true, or_self, true_or, or_true, and_self]; omega)) only [b296_0, b296_5, b296_8, b296_13, b296_16, b296_20, b296_21, b296_26, b296_32, b296_35, b296_41, b296_45, b296_51, b296_54, b296_63, b296_67, b296_68, b296_75, b296_79, b296_84, b296_88, b296_89, b296_92, b296_95, b296_97, b296_115, b296_130, b296_142, b296_155, b296_159, b296_160, b296_169, qcall_l, qcall_r, qretn_l, qJ_s, qJ_n, qV0, qEx, ↓qif0, ↓zchk_pos, ↓reduceIte, qput, qWW, qmW, qkW, qnW, K_37 hK, K_94 hK, h80, h82, if_pos hlt, if_neg c, z0, z32_s i (by omega), r1]
theorem q_wish_T {S : zS} {mT : Int → Int → Int} {r b : Int} {n : Nat} (hH : qHC S) (c1 : 0 ≤ r ∧ r < zm S 37 76) (c2 : 0 ≤ b ∧ b < zm S 37 16) (hnn : zm S 37 80 = (n : Int)) (c6 : (n : Int) < 30) (hw : qwi (zm S) r b (zm S 37 80).toNat = -1) (T80 : mT 37 80 = (n : Int) + 1) (T37 : ∀ j, j ≠ 80 → mT 37 j = zm S 37 j) (T16 : ∀ i, mT 16 i = if i = (n : Int) then r else zm S 16 i) (T17 : ∀ i, mT 17 i = if i = (n : Int) then b else zm S 17 i) (T93 : ∀ i, mT 93 i = if i = (n : Int) then r else zm S 93 i) (T94 : ∀ i, mT 94 i = if i = (n : Int) then b else zm S 94 i) (T15 : mT 15 2 = (n : Int) + 1) (T5 : ∀ j, j ≠ 2 → mT 15 j = zm S 15 j) (To : ∀ z, z ≠ 37 → z ≠ 93 → z ≠ 94 → z ≠ 102 → z ≠ 15 → z ≠ 16 → z ≠ 17 → mT z = zm S z) : qHC (qW S mT) := by
  obtain ⟨⟨⟨-, -, ⟨-, -, p3, -⟩, -⟩, -⟩, -⟩ := id hH
  rw [hnn] at hw
  obtain ⟨w1, w2, w3⟩ := p3
  rw [hnn] at w2 w3
  clear w1
  have nw : ∀ i, 0 ≤ i → i < (n : Int) → ¬ (zm S 93 i = r ∧ zm S 94 i = b) := fun i i1 i2 q => by
    have pw := qwi_p (zm S) r b i.toNat (by rw [show ((i.toNat : Nat) : Int) = i by omega]; exact q) n (by omega)
    rw [show ((n : Int)).toNat = n by omega] at hw
    omega
  refine qk_wish hH (qAg_w fun z j hz => ?_) ⟨⟨?_, ?_⟩, fun k k1' k2' => ?_, fun i k i1 i2 k2' => ?_⟩
  · by_cases q1 : z = 37
    · subst q1
      exact T37 j fun q => hz (by unfold qEk_wish; omega)
    · by_cases q2 : z = 15
      · subst q2
        exact T5 j fun q => hz (by unfold qEk_wish; omega)
      · exact congrFun (To z q1 (fun q => hz (by unfold qEk_wish; omega)) (fun q => hz (by unfold qEk_wish; omega)) (fun q => hz (by unfold qEk_wish; omega)) q2 (fun q => hz (by unfold qEk_wish; omega)) fun q => hz (by unfold qEk_wish; omega)) j
  · show mT 15 2 = mT 37 80
    rw [T80, T15]
  · show 0 ≤ mT 37 80 ∧ mT 37 80 ≤ 30
    omega
  · have k2' : k < mT 37 80 := k2'
    show mT 16 k = mT 93 k ∧ mT 17 k = mT 94 k ∧ (0 ≤ mT 93 k ∧ mT 93 k < mT 37 76) ∧ (0 ≤ mT 94 k ∧ mT 94 k < mT 37 16)
    rw [T16, T17, T93, T94, T37 76 (by decide), T37 16 (by decide)]
    by_cases ck : k = (n : Int)
    · rw [if_pos ck, if_pos ck, if_pos ck, if_pos ck]
      exact ⟨rfl, rfl, c1, c2⟩
    · rw [if_neg ck, if_neg ck, if_neg ck, if_neg ck]
      exact w2 k k1' (by omega)
  · have k2' : k < mT 37 80 := k2'
    have ine : ¬ i = (n : Int) := by omega
    show ¬ (mT 93 i = mT 93 k ∧ mT 94 i = mT 94 k)
    rw [T93, T93, T94, T94, if_neg ine, if_neg ine]
    by_cases ck : k = (n : Int)
    · rw [if_pos ck, if_pos ck]
      exact nw i i1 (by omega)
    · rw [if_neg ck, if_neg ck]
      exact w3 i k i1 i2 (by omega)
theorem q_wish_y (e : Nat) (S : zS) (r b : Int) (he : 14 ≤ e) (hH : qHC S) (c1 : 0 ≤ r ∧ r < zm S 37 76) (c2 : 0 ≤ b ∧ b < zm S 37 16) (hu : quk (zm S) r b = 0) (hw0 : qwi (zm S) r b (zm S 37 80).toNat = -1) (hq : qhl (zm S) r b (zm S 37 65).toNat = 0) (c6 : zm S 37 80 < 30) :
    qUn vi qid (qGo S) S (zD (e + 1) 144 [vr 3, vi r, vi b] S) (zD (e + 1) 296 [vr 37, vi r, vi b]) qpsE := by
  obtain ⟨⟨⟨⟨hK, hP, hL, hn⟩, ⟨hT, hC, hR, hk⟩, ⟨p1, p2, p3, p4, p5, p6⟩, hY⟩, hBB⟩, hYC, hFc⟩ := id hH
  have ro := s_readerOf_y e S r (by omega) hK hP p5.1 c1
  have r6 : 0 ≤ r ∧ r < 6 := ⟨c1.1, by have := p5.1.2; omega⟩
  have bo := s_bookOf_y e S b (by omega) hK hP hY.1 c2
  have su := s_countUnknown e S r b (by omega) hH.1 c1 c2
  have fi := s_find e S r b (by omega) hK hP p3
  have hc := s_hasCopyOf e S r b (by omega) hK hP p4 (by omega)
  obtain ⟨n80, n80b, n80c⟩ := p3.1
  have n65 := p4.1.2
  have p17 : ∀ i, 0 ≤ i → i < zm S 37 80 → zm S 17 i = zm S 94 i := fun i i1 i2 => (p3.2.1 i i1 i2).2.1
  have n76 := p5.1.2
  rw [hu] at su
  rw [hw0] at fi
  rw [hq] at hc
  clear p1 p2 p3 p4 p5 p6 hT hR hk hYC hFc
  obtain ⟨n, hnn⟩ : ∃ n : Nat, zm S 37 80 = (n : Int) := ⟨(zm S 37 80).toNat, by omega⟩
  rw [hnn] at n80 n80b n80c c6
  have zr : -2147483648 ≤ (n : Int) + 1 ∧ (n : Int) + 1 < 2147483648 := by omega
  have wa := s_wishAppend e S r b n (by omega) hK hP n80 ⟨by omega, c6⟩
  obtain ⟨A, hA⟩ : ∃ A, qu (qu (qu (zm S) 16 n r) 17 n b) 15 2 ((n : Int) + 1) = A := ⟨_, rfl⟩
  rw [hA] at wa
  have A17 : ∀ i, A 17 i = if i = (n : Int) then b else zm S 17 i := fun i => by rw [← hA, qu_o _ _ _ _ _ (by decide), qu_row, qu_o _ _ _ _ _ (by decide)]
  have A16 : ∀ i, A 16 i = if i = (n : Int) then r else zm S 16 i := fun i => by rw [← hA, qu_o _ _ _ _ _ (by decide), qu_o _ _ _ _ _ (by decide), qu_row]
  have A15 : A 15 2 = ((n + 1 : Nat) : Int) := by rw [← hA, qu_s]; rfl
  have Ao : ∀ z, z ≠ 15 → z ≠ 16 → z ≠ 17 → A z = zm S z := fun z z1 z2 z3 => by rw [← hA, qu_o _ _ _ _ _ z1, qu_o _ _ _ _ _ z3, qu_o _ _ _ _ _ z2]
  have A5 : ∀ j, j ≠ 2 → A 15 j = zm S 15 j := fun j hj => by rw [← hA, qu_i _ _ _ _ _ hj, qu_o _ _ _ _ _ (by decide), qu_o _ _ _ _ _ (by decide)]
  have HA : qHB1 (qW S A) := qHB1_m (qHB1_0 hH.1) (qAg_w fun z j hz => by
    by_cases z1 : z = 15
    · subst z1
      exact A5 j fun q => hz (by unfold qEh; omega)
    · exact congrFun (Ao z z1 (fun q => hz (by unfold qEh; omega)) fun q => hz (by unfold qEh; omega)) j)
  have hPA : qP A := HA.1.1.2.1
  have cf := s_countFor2 e (qW S A) b (n + 1) (by omega) hK hPA A15 (by omega)
  obtain ⟨v, hv⟩ : ∃ v, qcv (A 17) b (n + 1) = v := ⟨_, rfl⟩
  rw [show qcv (zm (qW S A) 17) b (n + 1) = v from hv] at cf
  have x3 : A 3 = zm S 3 := Ao 3 (by decide) (by decide) (by decide)
  have x12 : A 3 12 = 15 := by rw [x3]; exact P_3_12 hP
  refine Or.inl ⟨v, qW S A, ?_, qKs_w S _ (Ao 1 (by decide) (by decide) (by decide)), ?_⟩
  · simp (config := { maxSteps := 2000000 }) (disch := first | omega | (simp only [K_3 hK, K_15 hK, P_3_12 hP, x12, qb_in, qkW, qmW, qnW, true_and, and_true, or_self, true_or, or_true, and_self]; done) | (simp only [K_3 hK, K_15 hK, P_3_12 hP, x12, qb_in, qkW, qmW, qnW, true_and, and_true, or_self, true_or, or_true, and_self]; omega)) only [zD_144, b144_0, b144_5, b144_10, b144_13, b144_16, b144_27, b144_36, b144_40, b144_46, b144_49, b144_61, b144_72, b144_81, b144_89, qcall_l, qcall_r, qretn_l, qJ_s, qJ_n, qV0, qEx, ↓qif0, ↓zchk_pos, ↓reduceIte, qput, qWW, qmW, qkW, qnW, K_3 hK, K_15 hK, P_3_12 hP, ro, bo, su, Int.lt_irrefl, fi, hc, n80, if_pos c6, wa, x12, cf, Int.reduceEq]
  · obtain ⟨m1, hm1⟩ : ∃ m1, qu A 102 0 (qid v) = m1 := ⟨_, rfl⟩
    have hq1 : qo (qW S A) (qid v) = qW S m1 := by rw [← hm1]; rfl
    have k1 : ∀ z, z ≠ 102 → m1 z = A z := fun z h1 => by rw [← hm1, qu_o _ _ _ _ _ h1]
    have k1s : ∀ z, z ≠ 102 → z ≠ 15 → z ≠ 16 → z ≠ 17 → m1 z = zm S z := fun z h1 h2 h3 h4 => by rw [k1 z h1, Ao z h2 h3 h4]
    have H1 : qHB1 (qW S m1) := by
      rw [← hm1]
      exact qHB_q HA (qFq_o (S := qW S A) (qFq_r (qW S A)) _)
    have k37 : m1 37 = zm S 37 := k1s 37 (by decide) (by decide) (by decide) (by decide)
    have ir := r_isreader_y e (qW S m1) r (by omega) hK (by show 0 ≤ m1 37 76 ∧ m1 37 76 ≤ 6; rw [k37]; exact n76) (by show 0 ≤ r ∧ r < m1 37 76; rw [k37]; exact c1)
    have ib := r_isbook_y e (qW S m1) b (by omega) hK H1.1.2.2.1.2 (by show 0 ≤ b ∧ b < m1 37 16; rw [k37]; exact c2)
    obtain ⟨m3, r3, f3, H3, -⟩ := r_unknownTo e (qW S m1) r b (by omega) H1 r6 (by show 0 ≤ b ∧ b < m1 37 16; rw [k37]; exact c2)
    rw [show quk (zm (qW S m1)) r b = 0 from (quk_e hH.1 c2 (k1s 8 (by decide) (by decide) (by decide) (by decide)) (k1s 49 (by decide) (by decide) (by decide) (by decide)) (k1s 54 (by decide) (by decide) (by decide) (by decide)) (k1s 91 (by decide) (by decide) (by decide) (by decide)) fun x hx => k1s x (by omega) (by omega) (by omega) (by omega)).trans hu] at r3
    have r3 : zD e 292 [vr 37, vi r, vi b] (qW S m1) = some (.inl (some (vi 0)), qW S m3) := r3
    have l3 : ∀ x, 81 ≤ x → x ≤ 94 → m3 x = zm S x := fun x x1 x2 => by
      rw [← k1s x (by omega) (by omega) (by omega) (by omega)]
      exact funext fun i => f3 x i (by unfold qfly; omega)
    have q80 : m3 37 80 = (n : Int) := by rw [← hnn, ← k37]; exact f3 37 80 (by unfold qfly; omega)
    have q65 : m3 37 65 = zm S 37 65 := by rw [← k37]; exact f3 37 65 (by unfold qfly; omega)
    have hP3 : qP m3 := H3.1.1.2.1
    have wo := r_wishOf e (qW S m3) r b (by omega) hK hP3 (by show 0 ≤ m3 37 80 ∧ m3 37 80 ≤ 30; omega)
    have hl := r_held e (qW S m3) r b (by omega) hK hP3 (by show 0 ≤ m3 37 65 ∧ m3 37 65 ≤ 20; omega)
    rw [show qwi (zm (qW S m3)) r b (zm (qW S m3) 37 80).toNat = -1 by show qwi m3 r b (m3 37 80).toNat = _; rw [q80, ← hnn, ← hw0]; exact qwi_e (l3 94 (by decide) (by decide)) (l3 93 (by decide) (by decide)) r b _] at wo
    rw [show qhl (zm (qW S m3)) r b (zm (qW S m3) 37 65).toNat = 0 by show qhl m3 r b (m3 37 65).toNat = _; rw [q65, ← hq]; exact qhl_e (l3 86 (by decide) (by decide)) (l3 82 (by decide) (by decide)) r b _] at hl
    have hd := r_hold0 e S m3 (by omega) hK
    obtain ⟨m4, hm4⟩ : ∃ m4, qu m3 37 0 0 = m4 := ⟨_, rfl⟩
    rw [hm4] at hd
    have y80 : m4 37 80 = (n : Int) := by rw [← hm4, qu_i _ _ _ _ _ (by decide), q80]
    have y81 : m4 37 81 = 93 := by rw [← hm4, qu_i _ _ _ _ _ (by decide)]; exact P_37_81 hP3
    have y82 : m4 37 82 = 94 := by rw [← hm4, qu_i _ _ _ _ _ (by decide)]; exact P_37_82 hP3
    have B1 : qu m4 93 n r 37 = m4 37 := qu_o _ _ _ _ _ (by decide)
    have B2 : qu (qu m4 93 n r) 94 n b 37 = m4 37 := by rw [qu_o _ _ _ _ _ (by decide), B1]
    obtain ⟨m5, hm5⟩ : ∃ m5, qu (qu (qu m4 93 n r) 94 n b) 37 80 ((n : Int) + 1) = m5 := ⟨_, rfl⟩
    have w80 : m5 37 80 = ((n + 1 : Nat) : Int) := by rw [← hm5, qu_s]; rfl
    have w82 : m5 37 82 = 94 := by rw [← hm5, qu_i _ _ _ _ _ (by decide), B2, y82]
    have w94 : ∀ i, m5 94 i = if i = (n : Int) then b else zm S 94 i := fun i => by rw [← hm5, qu_o _ _ _ _ _ (by decide), qu_row, qu_o _ _ _ _ _ (by decide), ← hm4, qu_o _ _ _ _ _ (by decide), l3 94 (by decide) (by decide)]
    have w93 : ∀ i, m5 93 i = if i = (n : Int) then r else zm S 93 i := fun i => by rw [← hm5, qu_o _ _ _ _ _ (by decide), qu_o _ _ _ _ _ (by decide), qu_row, ← hm4, qu_o _ _ _ _ _ (by decide), l3 93 (by decide) (by decide)]
    have wz : ∀ z, z ≠ 37 → z ≠ 93 → z ≠ 94 → m5 z = m3 z := fun z h1 h2 h3 => by rw [← hm5, qu_o _ _ _ _ _ h1, qu_o _ _ _ _ _ h3, qu_o _ _ _ _ _ h2, ← hm4, qu_o _ _ _ _ _ h1]
    have w37 : ∀ j, j ≠ 0 → j ≠ 80 → m5 37 j = m3 37 j := fun j h1 h2 => by rw [← hm5, qu_i _ _ _ _ _ h2, B2, ← hm4, qu_i _ _ _ _ _ h1]
    have ct := r_wishCount e S m5 b (n + 1) vu vu vu hK w80 w82 (by omega) (n + 1) 0 vu (by omega)
    have ev : qcv (m5 94) b (n + 1) = v := by
      rw [← hv]
      refine qcv_c _ _ fun i hi => ?_
      rw [w94, A17]
      by_cases ci : (i : Int) = n
      · rw [if_pos ci, if_pos ci]
      · rw [if_neg ci, if_neg ci]
        exact (p17 i (Int.natCast_nonneg i) (by rw [hnn]; omega)).symm
    rw [ev] at ct
    have ct : zF_296 e 133 [vr 37, vu, vi b, vu, vu, vi 0, vi 0] [] (qW S m5) = some (.inl (some (vi v)), qW S m5) := ct
    have ct1 : zF_296 e 133 [vr 37, vi r, vi b, vu, vu, vi 0, vi 0] [] (qW S m5) = some (.inl (some (vi v)), qW S m5) := by
      rw [b296_133] at ct ⊢
      exact ct
    -- what is known behind it
    obtain ⟨mT, hmT⟩ : ∃ mT, qu (qu (qu m1 93 n r) 94 n b) 37 80 ((n : Int) + 1) = mT := ⟨_, rfl⟩
    have T37 : ∀ j, j ≠ 80 → mT 37 j = zm S 37 j := fun j hj => by rw [← hmT, qu_i _ _ _ _ _ hj, qu_o _ _ _ _ _ (by decide), qu_o _ _ _ _ _ (by decide), k37]
    have T80 : mT 37 80 = (n : Int) + 1 := by rw [← hmT, qu_s]
    have T94 : ∀ i, mT 94 i = if i = (n : Int) then b else zm S 94 i := fun i => by rw [← hmT, qu_o _ _ _ _ _ (by decide), qu_row, qu_o _ _ _ _ _ (by decide), k1s 94 (by decide) (by decide) (by decide) (by decide)]
    have T93 : ∀ i, mT 93 i = if i = (n : Int) then r else zm S 93 i := fun i => by rw [← hmT, qu_o _ _ _ _ _ (by decide), qu_o _ _ _ _ _ (by decide), qu_row, k1s 93 (by decide) (by decide) (by decide) (by decide)]
    have Tz : ∀ z, z ≠ 37 → z ≠ 93 → z ≠ 94 → mT z = m1 z := fun z h1 h2 h3 => by rw [← hmT, qu_o _ _ _ _ _ h1, qu_o _ _ _ _ _ h3, qu_o _ _ _ _ _ h2]
    have HT : qHC (qW S mT) := q_wish_T hH c1 c2 hnn c6 hw0 T80 T37 (fun i => by rw [Tz 16 (by decide) (by decide) (by decide), k1 16 (by decide), A16]) (fun i => by rw [Tz 17 (by decide) (by decide) (by decide), k1 17 (by decide), A17]) T93 T94 (by rw [Tz 15 (by decide) (by decide) (by decide), k1 15 (by decide), A15]; rfl) (fun j hj => by rw [Tz 15 (by decide) (by decide) (by decide), k1 15 (by decide), A5 j hj]) (fun z h1 h2 h3 h4 h5 h6 h7 => by rw [Tz z h1 h2 h3, k1 z h4, Ao z h5 h6 h7])
    have f5 : qF0 mT m5 := fun z i hz => by
      by_cases q1 : z = 37
      · subst q1
        by_cases q2 : i = 80
        · rw [q2, w80, T80]; rfl
        · rw [w37 i (fun q => hz (Or.inr ⟨rfl, q⟩)) q2, T37 i q2, f3 37 i (fun q => hz (Or.inl q))]
          show m1 37 i = _
          rw [k37]
      · by_cases q2 : z = 93
        · subst q2
          rw [w93, T93]
        · by_cases q3 : z = 94
          · subst q3
            rw [w94, T94]
          · rw [wz z q1 q2 q3, Tz z q1 q2 q3]
            exact f3 z i fun q => hz (Or.inl q)
    have H5 : qHB1 (qW S m5) := qHB1_m (S := qW S m3) H3 ⟨⟨Nat.le_refl _, fun _ _ => rfl⟩, fun z j _ hz => by
      show m5 z j = m3 z j
      by_cases q1 : z = 37
      · subst q1
        exact w37 j (fun q => hz (by unfold qEh; omega)) fun q => hz (by unfold qEh; omega)
      · rw [wz z q1 (fun q => hz (by unfold qEh; omega)) fun q => hz (by unfold qEh; omega)]⟩
    have F5 : qFzz (qW S mT) m5 := qF0_z (S := qW S mT) f5
    have H6 : qHC (qW S m5) := qHC_z (S := qW S mT) HT F5 ⟨qH0_x (S := qW S mT) HT.1.1 F5.1, H5.2⟩
    refine ⟨qW S m5, ?_, qKs_w S _ ?_, ?_, ?_, qGo_w H6 ?_ ?_⟩
    · rw [hq1]
      simp (config := { maxSteps := 2000000 }) (disch := first | omega | (simp only [K_37 hK, K_93 hK, K_94 hK, q80, y80, y81, y82, B1, B2, qb_in, qkW, qmW, qnW, true_and, and_true, or_self, true_or, or_true, and_self]; done) | (simp only [K_37 hK, K_93 hK, K_94 hK, q80, y80, y81, y82, B1, B2, qb_in, qkW, qmW, qnW, true_and, and_true, or_self, true_or, or_true, and_self]; omega)) only [zD_296, b296_0, b296_5, b296_8, b296_13, b296_16, b296_20, b296_21, b296_26, b296_32, b296_35, b296_41, b296_45, b296_51, b296_54, b296_63, b296_67, b296_68, b296_75, b296_79, b296_84, b296_88, b296_89, b296_92, b296_95, b296_97, b296_115, b296_130, b296_142, b296_155, b296_159, b296_160, b296_169, qcall_l, qcall_r, qretn_l, qJ_s, qJ_n, qV0, qEx, ↓qif0, ↓zchk_pos, ↓reduceIte, qput, qWW, qmW, qkW, qnW, K_37 hK, K_93 hK, K_94 hK, ir, ib, r3, wo, hl, q80, if_pos c6, hd, y80, y81, y82, B1, B2, q32 (x := (n : Int) + 1) zr, hm5, ct1, Int.reduceEq]
    · rw [wz 1 (by decide) (by decide) (by decide), show m3 1 = m1 1 from funext fun i => f3 1 i (by unfold qfly; omega), k1s 1 (by decide) (by decide) (by decide) (by decide)]
    · show m5 37 0 = 0
      rw [← hm5, qu_i _ _ _ _ _ (by decide), B2, ← hm4, qu_s]
    · show m5 102 0 = _
      rw [wz 102 (by decide) (by decide) (by decide), show m3 102 0 = m1 102 0 from f3 102 0 (by unfold qfly; omega), ← hm1, qu_s]
    · rw [w37 16 (by decide) (by decide), show m3 37 16 = m1 37 16 from f3 37 16 (by unfold qfly; omega), k37]
    · rw [w37 65 (by decide) (by decide), q65]
theorem q_wish (d : Nat) (S : zS) (r b : Int) (h : 15 ≤ d) (hH : qHC S) :
    qUn vi qid (qGo S) S (zD d 144 [vr 3, vi r, vi b] S) (zD d 296 [vr 37, vi r, vi b]) qpsE := by
  obtain ⟨⟨⟨⟨hK, hP, hL, hn⟩, ⟨hT, hC, hR, hk⟩, ⟨p1, p2, p3, p4, p5, p6⟩, hY⟩, hBB⟩, hYC, hFc⟩ := id hH
  have hKb : qK (zbump S) := hK
  by_cases c1 : 0 ≤ r ∧ r < zm S 37 76
  · obtain ⟨e, rfl, he⟩ := qd h
    have ro := s_readerOf_y e S r (by omega) hK hP p5.1 c1
    have kr := (p5.2.1 r c1.1 c1.2).1.1
    have r6 : 0 ≤ r ∧ r < 6 := ⟨c1.1, by have := p5.1.2; omega⟩
    have irb := r_isreader_y e (zbump S) r (by omega) hK p5.1.2 c1
    by_cases c2 : 0 ≤ b ∧ b < zm S 37 16
    · have bo := s_bookOf_y e S b (by omega) hK hP hY.1 c2
      have kb := (hY.2.1 b c2.1 c2.2).1.1
      have su := s_countUnknown e S r b (by omega) hH.1 c1 c2
      have ibb := r_isbook_y e (zbump S) b (by omega) hK hY.1.2 c2
      have fi := s_find e S r b (by omega) hK hP p3
      have hc := s_hasCopyOf e S r b (by omega) hK hP p4 (by omega)
      obtain ⟨n80, n80b, n80c⟩ := p3.1
      have n65 := p4.1.2
      have uu : 0 ≤ quk (zm S) r b := (qnk_r _ _ _).1
      -- the reference, refused
      obtain ⟨m2, r2, f2, H2, -⟩ := r_unknownTo e (zbump S) r b (by omega) (qHB1_0 hH.1) r6 c2
      have r2 : zD e 292 [vr 37, vi r, vi b] (zbump S) = some (.inl (some (vi (quk (zm S) r b))), zbump (qW S m2)) := r2
      have hKb2 : qK (zbump (qW S m2)) := hK
      have l2 : ∀ x, (81 ≤ x ∧ x ≤ 94) → m2 x = zm S x := fun x hx => funext fun i => f2 x i (by unfold qfly; omega)
      have e80 : m2 37 80 = zm S 37 80 := f2 37 80 (by unfold qfly; omega)
      have e65 : m2 37 65 = zm S 37 65 := f2 37 65 (by unfold qfly; omega)
      have wo := r_wishOf e (zbump (qW S m2)) r b (by omega) hKb2 H2.1.1.2.1 (by show 0 ≤ m2 37 80 ∧ m2 37 80 ≤ 30; omega)
      have hl := r_held e (zbump (qW S m2)) r b (by omega) hKb2 H2.1.1.2.1 (by show 0 ≤ m2 37 65 ∧ m2 37 65 ≤ 20; omega)
      rw [show qwi (zm (zbump (qW S m2))) r b (zm (zbump (qW S m2)) 37 80).toNat = qwi (zm S) r b (zm S 37 80).toNat by show qwi m2 r b (m2 37 80).toNat = _; rw [e80]; exact qwi_e (l2 94 (by decide)) (l2 93 (by decide)) r b _] at wo
      rw [show qhl (zm (zbump (qW S m2))) r b (zm (zbump (qW S m2)) 37 65).toNat = qhl (zm S) r b (zm S 37 65).toNat by show qhl m2 r b (m2 37 65).toNat = _; rw [e65]; exact qhl_e (l2 86 (by decide)) (l2 82 (by decide)) r b _] at hl
      have hd : zD e 182 [vr 37, vi 2] (zbump (qW S m2)) = some (.inl (some (vi 0)), zbump (qW S (qu m2 37 0 2))) := r_holdn e (zbump S) m2 2 (by omega) hK (by decide)
      have b80 : zm (zbump (qW S m2)) 37 80 = zm S 37 80 := e80
      have refused : ∀ R, R = some (.inr 1, zbump S) → zD (e + 1) 296 [vr 37, vi r, vi b] (zbump S) = some (.inl (some (vi 0)), zbump (qW S (qu m2 37 0 2))) → qUn vi qid (qGo S) S R (zD (e + 1) 296 [vr 37, vi r, vi b]) qpsE := fun R hR hF => qUn_cx hH 1 hR (by decide) ⟨qu m2 37 0 2, hF, qF0_t (qF0_l f2) (qF0_u m2 2), qu_s _ _ _ _, qHB_0 (S := S) H2 2⟩ fun m f H => qGo_x hH f H
      obtain ⟨u, hu⟩ : ∃ u, quk (zm S) r b = u := ⟨_, rfl⟩
      obtain ⟨w, hw⟩ : ∃ w, qwi (zm S) r b (zm S 37 80).toNat = w := ⟨_, rfl⟩
      obtain ⟨q, hq⟩ : ∃ q, qhl (zm S) r b (zm S 37 65).toNat = q := ⟨_, rfl⟩
      rw [hu] at su r2 uu
      rw [hw] at fi wo
      rw [hq] at hc hl
      by_cases c3 : u = 0
      · by_cases c4 : w = -1
        · by_cases c5 : q = 0
          · by_cases c6 : zm S 37 80 < 30
            · exact q_wish_y e S r b he hH c1 c2 (hu.trans c3) (hw.trans c4) (hq.trans c5) c6
            · refine refused _ ?_ ?_
              · simp (config := { maxSteps := 2000000 }) (disch := first | omega | (simp only [K_3 hK, K_15 hK, P_3_12 hP, qb_in, qkW, qmW, qnW, true_and, and_true, or_self, true_or, or_true, and_self]; done) | (simp only [K_3 hK, K_15 hK, P_3_12 hP, qb_in, qkW, qmW, qnW, true_and, and_true, or_self, true_or, or_true, and_self]; omega)) only [zD_144, b144_0, b144_5, b144_10, b144_13, b144_16, b144_27, b144_36, b144_40, b144_46, b144_49, b144_61, b144_72, b144_81, b144_89, qcall_l, qcall_r, qretn_l, qJ_s, qJ_n, qV0, qEx, ↓qif0, ↓zchk_pos, ↓reduceIte, qput, qWW, qmW, qkW, qnW, K_3 hK, K_15 hK, P_3_12 hP, ro, bo, su, c3, Int.lt_irrefl, fi, c4, hc, c5, n80, if_neg c6, Int.reduceEq]
              · simp (config := { maxSteps := 2000000 }) (disch := first | omega | (simp only [K_37 hKb, K_37 hKb2, qb_in, qkW, qmW, qnW, true_and, and_true, or_self, true_or, or_true, and_self]; done) | (simp only [K_37 hKb, K_37 hKb2, qb_in, qkW, qmW, qnW, true_and, and_true, or_self, true_or, or_true, and_self]; omega)) only [zD_296, b296_0, b296_5, b296_8, b296_13, b296_16, b296_20, b296_21, b296_26, b296_32, b296_35, b296_41, b296_45, b296_51, b296_54, b296_63, b296_67, b296_68, b296_75, b296_79, b296_84, b296_88, b296_89, b296_92, b296_95, b296_97, b296_115, b296_130, b296_142, b296_155, b296_159, b296_160, b296_169, qcall_l, qcall_r, qretn_l, qJ_s, qJ_n, qV0, qEx, ↓qif0, ↓zchk_pos, ↓reduceIte, qput, qWW, qmW, qkW, qnW, K_37 hKb, K_37 hKb2, irb, ibb, r2, c3, wo, c4, hl, c5, b80, if_neg c6, hd, Int.reduceEq]
          · refine refused _ ?_ ?_
            · simp (config := { maxSteps := 2000000 }) (disch := first | omega | (simp only [K_3 hK, K_15 hK, P_3_12 hP, qb_in, qkW, qmW, qnW, true_and, and_true, or_self, true_or, or_true, and_self]; done) | (simp only [K_3 hK, K_15 hK, P_3_12 hP, qb_in, qkW, qmW, qnW, true_and, and_true, or_self, true_or, or_true, and_self]; omega)) only [zD_144, b144_0, b144_5, b144_10, b144_13, b144_16, b144_27, b144_36, b144_40, b144_46, b144_49, b144_61, b144_72, b144_81, b144_89, qcall_l, qcall_r, qretn_l, qJ_s, qJ_n, qV0, qEx, ↓qif0, ↓zchk_pos, ↓reduceIte, qput, qWW, qmW, qkW, qnW, K_3 hK, K_15 hK, P_3_12 hP, ro, bo, su, c3, Int.lt_irrefl, fi, c4, hc, if_neg c5, Int.reduceEq]
            · simp (config := { maxSteps := 2000000 }) (disch := first | omega | (simp only [K_37 hKb, K_37 hKb2, qb_in, qkW, qmW, qnW, true_and, and_true, or_self, true_or, or_true, and_self]; done) | (simp only [K_37 hKb, K_37 hKb2, qb_in, qkW, qmW, qnW, true_and, and_true, or_self, true_or, or_true, and_self]; omega)) only [zD_296, b296_0, b296_5, b296_8, b296_13, b296_16, b296_20, b296_21, b296_26, b296_32, b296_35, b296_41, b296_45, b296_51, b296_54, b296_63, b296_67, b296_68, b296_75, b296_79, b296_84, b296_88, b296_89, b296_92, b296_95, b296_97, b296_115, b296_130, b296_142, b296_155, b296_159, b296_160, b296_169, qcall_l, qcall_r, qretn_l, qJ_s, qJ_n, qV0, qEx, ↓qif0, ↓zchk_pos, ↓reduceIte, qput, qWW, qmW, qkW, qnW, K_37 hKb, K_37 hKb2, irb, ibb, r2, c3, wo, c4, hl, if_neg c5, hd, Int.reduceEq]
        · refine refused _ ?_ ?_
          · simp (config := { maxSteps := 2000000 }) (disch := first | omega | (simp only [K_3 hK, K_15 hK, P_3_12 hP, qb_in, qkW, qmW, qnW, true_and, and_true, or_self, true_or, or_true, and_self]; done) | (simp only [K_3 hK, K_15 hK, P_3_12 hP, qb_in, qkW, qmW, qnW, true_and, and_true, or_self, true_or, or_true, and_self]; omega)) only [zD_144, b144_0, b144_5, b144_10, b144_13, b144_16, b144_27, b144_36, b144_40, b144_46, b144_49, b144_61, b144_72, b144_81, b144_89, qcall_l, qcall_r, qretn_l, qJ_s, qJ_n, qV0, qEx, ↓qif0, ↓zchk_pos, ↓reduceIte, qput, qWW, qmW, qkW, qnW, K_3 hK, K_15 hK, P_3_12 hP, ro, bo, su, c3, Int.lt_irrefl, fi, if_neg c4]
          · simp (config := { maxSteps := 2000000 }) (disch := first | omega | (simp only [K_37 hKb, K_37 hKb2, qb_in, qkW, qmW, qnW, true_and, and_true, or_self, true_or, or_true, and_self]; done) | (simp only [K_37 hKb, K_37 hKb2, qb_in, qkW, qmW, qnW, true_and, and_true, or_self, true_or, or_true, and_self]; omega)) only [zD_296, b296_0, b296_5, b296_8, b296_13, b296_16, b296_20, b296_21, b296_26, b296_32, b296_35, b296_41, b296_45, b296_51, b296_54, b296_63, b296_67, b296_68, b296_75, b296_79, b296_84, b296_88, b296_89, b296_92, b296_95, b296_97, b296_115, b296_130, b296_142, b296_155, b296_159, b296_160, b296_169, qcall_l, qcall_r, qretn_l, qJ_s, qJ_n, qV0, qEx, ↓qif0, ↓zchk_pos, ↓reduceIte, qput, qWW, qmW, qkW, qnW, K_37 hKb, K_37 hKb2, irb, ibb, r2, c3, wo, if_neg c4, hd, Int.reduceEq]
      · refine refused _ ?_ ?_
        · simp (config := { maxSteps := 2000000 }) (disch := first | omega | (simp only [K_3 hK, qb_in, qkW, qmW, qnW, true_and, and_true, or_self, true_or, or_true, and_self]; done) | (simp only [K_3 hK, qb_in, qkW, qmW, qnW, true_and, and_true, or_self, true_or, or_true, and_self]; omega)) only [zD_144, b144_0, b144_5, b144_10, b144_13, b144_16, b144_27, b144_36, b144_40, b144_46, b144_49, b144_61, b144_72, b144_81, b144_89, qcall_l, qcall_r, qretn_l, qJ_s, qJ_n, qV0, qEx, ↓qif0, ↓zchk_pos, ↓reduceIte, qput, qWW, qmW, qkW, qnW, K_3 hK, ro, bo, su, if_pos (show 0 < u by omega)]
        · simp (config := { maxSteps := 2000000 }) (disch := first | omega | (simp only [K_37 hKb, K_37 hKb2, qb_in, qkW, qmW, qnW, true_and, and_true, or_self, true_or, or_true, and_self]; done) | (simp only [K_37 hKb, K_37 hKb2, qb_in, qkW, qmW, qnW, true_and, and_true, or_self, true_or, or_true, and_self]; omega)) only [zD_296, b296_0, b296_5, b296_8, b296_13, b296_16, b296_20, b296_21, b296_26, b296_32, b296_35, b296_41, b296_45, b296_51, b296_54, b296_63, b296_67, b296_68, b296_75, b296_79, b296_84, b296_88, b296_89, b296_92, b296_95, b296_97, b296_115, b296_130, b296_142, b296_155, b296_159, b296_160, b296_169, qcall_l, qcall_r, qretn_l, qJ_s, qJ_n, qV0, qEx, ↓qif0, ↓zchk_pos, ↓reduceIte, qput, qWW, qmW, qkW, qnW, K_37 hKb, K_37 hKb2, irb, ibb, r2, if_neg c3, hd, Int.reduceEq]
    · refine qUn_cn hH ⟨2, ?_, ?_, by decide⟩ fun m2 f H => qGo_x hH f H
      · have bo := s_bookOf_n e S b (by omega) hK hY.1 c2
        simp (config := { maxSteps := 2000000 }) (disch := first | omega | (simp only [K_3 hK, kr, qb_in, qkW, qmW, qnW, true_and, and_true, or_self, true_or, or_true, and_self]; done) | (simp only [K_3 hK, kr, qb_in, qkW, qmW, qnW, true_and, and_true, or_self, true_or, or_true, and_self]; omega)) only [zD_144, b144_0, b144_5, b144_10, b144_13, b144_16, b144_27, b144_36, b144_40, b144_46, b144_49, b144_61, b144_72, b144_81, b144_89, qcall_l, qcall_r, qretn_l, qJ_s, qJ_n, qV0, qEx, ↓qif0, ↓zchk_pos, ↓reduceIte, qput, qWW, qmW, qkW, qnW, K_3 hK, ro, bo, kr]
      · have ib := r_isbook_n e S b (by omega) hK hY.1.2 c2
        have hd := r_refuse e S 1 (by omega) hK (by decide)
        simp (config := { maxSteps := 2000000 }) (disch := first | omega | (simp only [K_37 hKb, qb_in, qkW, qmW, qnW, true_and, and_true, or_self, true_or, or_true, and_self]; done) | (simp only [K_37 hKb, qb_in, qkW, qmW, qnW, true_and, and_true, or_self, true_or, or_true, and_self]; omega)) only [zD_296, b296_0, b296_5, b296_8, b296_13, b296_16, b296_20, b296_21, b296_26, b296_32, b296_35, b296_41, b296_45, b296_51, b296_54, b296_63, b296_67, b296_68, b296_75, b296_79, b296_84, b296_88, b296_89, b296_92, b296_95, b296_97, b296_115, b296_130, b296_142, b296_155, b296_159, b296_160, b296_169, qcall_l, qcall_r, qretn_l, qJ_s, qJ_n, qV0, qEx, ↓qif0, ↓zchk_pos, ↓reduceIte, qput, qWW, qmW, qkW, qnW, K_37 hKb, irb, ib, hd, Int.reduceEq]
        rfl
  · exact qUn_cn hH (q_wish_n d S r b (by omega) hK p5.1 c1) fun m2 f H => qGo_x hH f H
