/-! Words that a reader can't read; sheets; what is taught. -/
def qnz (u K : Int) : Int := if zand u (zxor K (-1)) = 0 then 0 else 1
theorem qnz_i (u K : Int) (A B : zR) : (if zand u (zxor K (-1)) = 0 then A else B) = if qnz u K = 0 then A else B := by
  unfold qnz
  by_cases c : zand u (zxor K (-1)) = 0
  · rw [if_pos c, if_pos c, if_pos rfl]
  · rw [if_neg c, if_neg c, if_neg (by decide)]
theorem qnz_r (u K : Int) : qnz u K = 0 ∨ qnz u K = 1 := by
  unfold qnz
  split
  · exact Or.inl rfl
  · exact Or.inr rfl
def qnk (g : Int → Int) (K : Int) : Nat → Int
  | 0 => 0
  | j + 1 => qnk g K j + qnz (g j) K
theorem qnk_r (g : Int → Int) (K : Int) : ∀ j : Nat, 0 ≤ qnk g K j ∧ qnk g K j ≤ j := by
  intro j
  induction j with
  | zero => exact ⟨Int.le_refl _, Int.le_refl _⟩
  | succ j ih =>
    have := qnz_r (g j) K
    rw [qnk]
    omega
theorem qnk_c {g h : Int → Int} (K : Int) : ∀ j : Nat, (∀ i : Nat, i < j → h i = g i) → qnk h K j = qnk g K j := by
  intro j
  induction j with
  | zero => intro _; rfl
  | succ j ih =>
    intro e
    rw [qnk, qnk, ih fun i hi => e i (by omega), e j (by omega)]
/-- the words of a book that a reader doesn't know -/
def quk (m : Int → Int → Int) (r b : Int) : Int := qnk (fun j => m (m (m 8 b + 1) j + 3) 3) (m 91 (3 * r + m 49 b)) (m 54 b).toNat
theorem s_countUnknown (d : Nat) (S : zS) (r b : Int) (h : 1 ≤ d) (hH : qHB S) (hr : 0 ≤ r ∧ r < zm S 37 76) (hb : 0 ≤ b ∧ b < zm S 37 16) : zD d 167 [vr (zm S 14 r), vr (zm S 8 b)] S = some (.inl (some (vi (quk (zm S) r b))), S) := by
  obtain ⟨e, rfl, -⟩ := qd h
  obtain ⟨⟨⟨hK, hP, hL, hn⟩, ⟨hT, hC, hR, hk⟩, ⟨-, -, -, -, hYr, -⟩, hY⟩, hBB⟩ := hH
  obtain ⟨⟨⟨k1, k2, k3, k4, r1⟩, -, -, -, -, rk⟩, -⟩ : _ ∧ True := ⟨hYr.2.1 r hr.1 hr.2, trivial⟩
  obtain ⟨⟨a1, a2, a3, a4, a5⟩, ⟨x0, -, c0, c3⟩, -, -, -, -, x6, ⟨x7, n0, n80⟩, -⟩ := hY.2.1 b hb.1 hb.2
  have c03 : zm S 49 b < 3 := by have := hC.2.1.2; omega
  obtain ⟨kk, -⟩ := rk (zm S 49 b) c0 c03
  obtain ⟨J, fL, fE, fA, fU, fM, P, ll, w0, -⟩ := hBB b hb.1 hb.2
  have hJ := w0.1.1
  have J80 := w0.1.2.1
  have wb : ∀ j : Nat, j < J → (zk S (zm S (zm S 8 b + 1) j) = (21, 0) ∧ zk S (zm S (zm S 8 b + 1) j + 3) = (31, 0)) ∧ zm S (zm S (zm S 8 b + 1) j) 1 = zm S (zm S 8 b + 1) j + 3 := fun j hj => by
    obtain ⟨⟨⟨ky, -, -, ky3, -, -⟩, ⟨-, -, y1, -, -⟩, -⟩, -⟩ := qWw_b (w0.2.1 j hj).1
    exact ⟨⟨ky, ky3⟩, y1⟩
  have eq : quk (zm S) r b = qnk (fun j => zm S (zm S (zm S 8 b + 1) j + 3) 3) (zm S 91 (3 * r + zm S 49 b)) J := by
    unfold quk
    rw [hJ]
    rfl
  rw [eq]
  generalize zm S 91 (3 * r + zm S 49 b) = K at *
  generalize hx : zm S 8 b = x at *
  clear eq w0 rk hBB hY hYr hC hR hk hT
  have lp : ∀ (g i : Nat) (x0 : zV), i + g = J → zF_167 e 31 [x0, vr x, vi K, vi (qnk (fun j => zm S (zm S (x + 1) j + 3) 3) K i), vi (i : Int)] [] S = some (.inl (some (vi (qnk (fun j => zm S (zm S (x + 1) j + 3) 3) K J))), S) := by
    intro g
    induction g with
    | zero =>
      intro i x0 hi
      obtain rfl : i = J := by omega
      rw [b167_31]
      simp (config := { maxSteps := 2000000 }) (disch := first | omega | (simp only [a1, qb_in, qkW, qmW, qnW, true_and, and_true, or_self, true_or, or_true, and_self]; done) | (simp only [a1, qb_in, qkW, qmW, qnW, true_and, and_true, or_self, true_or, or_true, and_self]; omega)) only [b167_0, b167_12, b167_24, b167_25, b167_40, b167_57, b167_60, b167_63, b167_69, qcall_l, qcall_r, qretn_l, qJ_s, qJ_n, qV0, qEx, ↓qif0, ↓zchk_pos, ↓reduceIte, qput, qWW, qmW, qkW, qnW, a1, x7, hJ, if_neg (show ¬ (i : Int) < i from Int.lt_irrefl _)]
    | succ g ih =>
      intro i x0 hi
      have iJ : i < J := by omega
      have hlt : (i : Int) < J := Int.ofNat_lt.mpr iJ
      have i80 : (i : Int) < 80 := Int.lt_of_lt_of_le hlt (by omega)
      have i0 : 0 ≤ (i : Int) := Int.natCast_nonneg i
      obtain ⟨⟨ky, ky3⟩, y1⟩ := wb i iJ
      have r1 := ih (i + 1) vu (by omega)
      have qr := qnk_r (fun j => zm S (zm S (x + 1) j + 3) 3) K i
      have z1 : z32 (qnk (fun j => zm S (zm S (x + 1) j + 3) 3) K i + 1) = qnk (fun j => zm S (zm S (x + 1) j + 3) 3) K i + 1 := q32 (by omega)
      rw [qnk] at r1
      have i31 : (i : Int) < 2147483647 := by omega
      rw [b167_31]
      clear ih qr
      rcases qnz_r (zm S (zm S (x + 1) i + 3) 3) K with c | c
      · rw [c, Int.add_zero] at r1
        simp (config := { maxSteps := 2000000 }) (disch := first | omega | (simp only [a1, a2, x6, ky, y1, ky3, qb_in, qkW, qmW, qnW, true_and, and_true, or_self, true_or, or_true, and_self]; done) | (simp only [a1, a2, x6, ky, y1, ky3, qb_in, qkW, qmW, qnW, true_and, and_true, or_self, true_or, or_true, and_self]; omega)) only [b167_0, b167_12, b167_24, b167_25, b167_40, b167_57, b167_60, b167_63, b167_69, qcall_l, qcall_r, qretn_l, qJ_s, qJ_n, qV0, qEx, ↓qif0, ↓zchk_pos, ↓reduceIte, qput, qWW, qmW, qkW, qnW, a1, a2, x6, x7, hJ, if_pos hlt, ky, y1, ky3, qnz_i, c, z32_s i i31, r1]
      · rw [c] at r1
        simp (config := { maxSteps := 2000000 }) (disch := first | omega | (simp only [a1, a2, x6, ky, y1, ky3, qb_in, qkW, qmW, qnW, true_and, and_true, or_self, true_or, or_true, and_self]; done) | (simp only [a1, a2, x6, ky, y1, ky3, qb_in, qkW, qmW, qnW, true_and, and_true, or_self, true_or, or_true, and_self]; omega)) only [b167_0, b167_12, b167_24, b167_25, b167_40, b167_57, b167_60, b167_63, b167_69, qcall_l, qcall_r, qretn_l, qJ_s, qJ_n, qV0, qEx, ↓qif0, ↓zchk_pos, ↓reduceIte, qput, qWW, qmW, qkW, qnW, a1, a2, x6, x7, hJ, if_pos hlt, ky, y1, ky3, qnz_i, c, Int.reduceEq, z1, z32_s i i31, r1]
  have l0 := lp J 0 vu (by omega)
  have l0 : zF_167 e 31 [vu, vr x, vi K, vi 0, vi 0] [] S = _ := l0
  simp (config := { maxSteps := 2000000 }) (disch := first | omega | (simp only [a1, k1, k2, r1, qb_in, qkW, qmW, qnW, true_and, and_true, or_self, true_or, or_true, and_self]; done) | (simp only [a1, k1, k2, r1, qb_in, qkW, qmW, qnW, true_and, and_true, or_self, true_or, or_true, and_self]; omega)) only [zD_167, b167_0, b167_12, b167_24, b167_25, b167_40, b167_57, b167_60, b167_63, b167_69, qcall_l, qcall_r, qretn_l, qJ_s, qJ_n, qV0, qEx, ↓qif0, ↓zchk_pos, ↓reduceIte, qput, qWW, qmW, qkW, qnW, a1, k1, k2, x0, r1, if_pos c03, kk, l0]
theorem r_unknownTo (d : Nat) (S : zS) (r b : Int) (h : 11 ≤ d) (hH : qHB1 S) (hr : 0 ≤ r ∧ r < 6) (hb : 0 ≤ b ∧ b < zm S 37 16) :
    ∃ m', zD d 292 [vr 37, vi r, vi b] S = some (.inl (some (vi (quk (zm S) r b))), qW S m') ∧ qFly (zm S) m' ∧ qHB1 (qW S m') ∧ qLd (qW S m') b := by
  obtain ⟨e, rfl, he⟩ := qd h
  obtain ⟨h0, hB⟩ := id hH
  have hK := h0.1.1
  obtain ⟨m', rl, fl, l, g⟩ := q_lays e S b (by omega) h0 hB hb
  have f := qFly_x fl
  have h0' := qH1_x h0 f
  obtain ⟨k1, k2, kx, kx1, kx2⟩ := qFx_b h0 f hb
  have hB' : ∀ b, 0 ≤ b → b < m' 37 16 → qBB (qW S m') b := fun b' b1 b2 => g b' b1 (by rw [k2] at b2; exact b2)
  refine ⟨m', ?_, fl, ⟨h0', hB'⟩, l⟩
  have hP' := h0'.1.2.1
  have hbn : b < 4 := by have := h0.2.2.1.2; omega
  obtain ⟨⟨a1, a2, a3, a4, a5⟩, ⟨x0, -, c0, c3⟩, -, -, -, -, x6, ⟨x7, n0, n80⟩, -⟩ := h0.2.2.2.1 b hb.1 hb.2
  have c03 : zm S 49 b < 3 := by have := h0.2.1.1.2.1.2; omega
  obtain ⟨J, fL, fE, fA, fU, fM, P, ll, w0, w1⟩ := qBB_l (g b hb.1 hb.2) l
  have hJ := w0.1.1
  have J80 := w0.1.2.1
  have e8 : zm (qW S m') 8 = zm S 8 := k1 8 (by omega)
  have e54 : m' 54 = zm S 54 := k1 54 (by omega)
  rw [e8] at w0
  have uj : ∀ j : Nat, j < J → m' 78 j = zm S (zm S (zm S 8 b + 1) j + 3) 3 := fun j hj => by
    obtain ⟨y1, -⟩ := w0.2.1 j hj
    have q1 := (w1.2.1 j hj).2.2.2.2.2.1
    have q2 := (qWw_b y1).2.2.2.2.2.1
    have yb := (qWw_b y1).1.2.2
    rw [show zm (qW S m') (zm S 8 b + 1) = zm S (zm S 8 b + 1) from kx1] at q2 yb
    have q3 : zm (qW S m') (zm S (zm S 8 b + 1) j + 3) = zm S (zm S (zm S 8 b + 1) j + 3) := funext fun i => fl _ i (by unfold qfly; omega)
    rw [q3] at q2
    exact q1.trans q2.symm
  have eK : m' 91 = zm S 91 := funext fun i => fl 91 i (by unfold qfly; omega)
  have e49 : m' 49 = zm S 49 := k1 49 (by omega)
  have hJS : zm S 54 b = (J : Int) := by rw [← e54]; exact hJ
  have eq : quk (zm S) r b = qnk (fun j => m' 78 j) (zm S 91 (3 * r + zm S 49 b)) J := by
    unfold quk
    rw [hJS]
    exact (qnk_c _ J fun i hi => uj i hi).symm
  rw [eq]
  have p22 : m' 37 22 = 54 := P_37_22 hP'
  have p60 : m' 37 60 = 78 := P_37_60 hP'
  have p17 : m' 37 17 = 49 := P_37_17 hP'
  have p78 : m' 37 78 = 91 := P_37_78 hP'
  have n49 : m' 49 b = zm S 49 b := by rw [e49]
  have n54 : m' 54 b = (J : Int) := hJ
  obtain ⟨c, hc⟩ : ∃ c, zm S 49 b = c := ⟨_, rfl⟩
  rw [hc] at c0 c03 n49 ⊢
  obtain ⟨K, hKK⟩ : ∃ K, zm S 91 (3 * r + c) = K := ⟨_, rfl⟩
  rw [hKK]
  have n91 : m' 91 (3 * r + c) = K := by rw [eK, hKK]
  have z2 : z32 (3 * r) = 3 * r := q32 (by omega)
  have z3 : z32 (3 * r + c) = 3 * r + c := q32 (by omega)
  clear uj w0 w1 g eq
  have lp : ∀ (g i : Nat), i + g = J → zF_292 e 10 [vr 37, vi r, vi b, vi (qnk (fun j => m' 78 j) K i), vi (i : Int)] [] (qW S m') = some (.inl (some (vi (qnk (fun j => m' 78 j) K J))), qW S m') := by
    intro g
    induction g with
    | zero =>
      intro i hi
      obtain rfl : i = J := by omega
      rw [b292_10]
      simp (config := { maxSteps := 2000000 }) (disch := first | omega | (simp only [K_37 hK, K_54 hK, p22, qb_in, qkW, qmW, qnW, true_and, and_true, or_self, true_or, or_true, and_self]; done) | (simp only [K_37 hK, K_54 hK, p22, qb_in, qkW, qmW, qnW, true_and, and_true, or_self, true_or, or_true, and_self]; omega)) only [b292_0, b292_5, b292_21, b292_36, b292_50, b292_54, b292_55, b292_63, qcall_l, qcall_r, qretn_l, qJ_s, qJ_n, qV0, qEx, ↓qif0, ↓zchk_pos, ↓reduceIte, qput, qWW, qmW, qkW, qnW, K_37 hK, K_54 hK, p22, n54, if_neg (show ¬ (i : Int) < i from Int.lt_irrefl _)]
    | succ g ih =>
      intro i hi
      have iJ : i < J := by omega
      have hlt : (i : Int) < J := Int.ofNat_lt.mpr iJ
      have i80 : (i : Int) < 80 := Int.lt_of_lt_of_le hlt (by omega)
      have i0 : 0 ≤ (i : Int) := Int.natCast_nonneg i
      have r1 := ih (i + 1) (by omega)
      have qr := qnk_r (fun j => m' 78 j) K i
      have z0 : z32 (qnk (fun j => m' 78 j) K i + 0) = qnk (fun j => m' 78 j) K i := by rw [q32 (by omega), Int.add_zero]
      have z1 : z32 (qnk (fun j => m' 78 j) K i + 1) = qnk (fun j => m' 78 j) K i + 1 := q32 (by omega)
      rw [qnk] at r1
      have i31 : (i : Int) < 2147483647 := by omega
      rw [b292_10]
      clear ih qr
      rcases qnz_r (m' 78 i) K with cz | cz
      · rw [cz, Int.add_zero] at r1
        simp (config := { maxSteps := 2000000 }) (disch := first | omega | (simp only [K_37 hK, K_49 hK, K_54 hK, K_78 hK, K_91 hK, p22, p60, p17, p78, n49, z2, z3, qb_in, qkW, qmW, qnW, true_and, and_true, or_self, true_or, or_true, and_self]; done) | (simp only [K_37 hK, K_49 hK, K_54 hK, K_78 hK, K_91 hK, p22, p60, p17, p78, n49, z2, z3, qb_in, qkW, qmW, qnW, true_and, and_true, or_self, true_or, or_true, and_self]; omega)) only [b292_0, b292_5, b292_21, b292_36, b292_50, b292_54, b292_55, b292_63, qcall_l, qcall_r, qretn_l, qJ_s, qJ_n, qV0, qEx, ↓qif0, ↓zchk_pos, ↓reduceIte, qput, qWW, qmW, qkW, qnW, K_37 hK, K_49 hK, K_54 hK, K_78 hK, K_91 hK, p22, p60, p17, p78, n54, if_pos hlt, z2, n49, z3, n91, qnz_i, cz, z0, z32_s i i31, r1]
      · rw [cz] at r1
        simp (config := { maxSteps := 2000000 }) (disch := first | omega | (simp only [K_37 hK, K_49 hK, K_54 hK, K_78 hK, K_91 hK, p22, p60, p17, p78, n49, z2, z3, qb_in, qkW, qmW, qnW, true_and, and_true, or_self, true_or, or_true, and_self]; done) | (simp only [K_37 hK, K_49 hK, K_54 hK, K_78 hK, K_91 hK, p22, p60, p17, p78, n49, z2, z3, qb_in, qkW, qmW, qnW, true_and, and_true, or_self, true_or, or_true, and_self]; omega)) only [b292_0, b292_5, b292_21, b292_36, b292_50, b292_54, b292_55, b292_63, qcall_l, qcall_r, qretn_l, qJ_s, qJ_n, qV0, qEx, ↓qif0, ↓zchk_pos, ↓reduceIte, qput, qWW, qmW, qkW, qnW, K_37 hK, K_49 hK, K_54 hK, K_78 hK, K_91 hK, p22, p60, p17, p78, n54, if_pos hlt, z2, n49, z3, n91, qnz_i, cz, Int.reduceEq, z1, z32_s i i31, r1]
  have l0 := lp J 0 (by omega)
  have l0 : zF_292 e 10 [vr 37, vi r, vi b, vi 0, vi 0] [] (qW S m') = _ := l0
  simp (config := { maxSteps := 2000000 }) (disch := first | omega | (simp only [K_37 hK, qb_in, qkW, qmW, qnW, true_and, and_true, or_self, true_or, or_true, and_self]; done) | (simp only [K_37 hK, qb_in, qkW, qmW, qnW, true_and, and_true, or_self, true_or, or_true, and_self]; omega)) only [zD_292, b292_0, b292_5, b292_21, b292_36, b292_50, b292_54, b292_55, b292_63, qcall_l, qcall_r, qretn_l, qJ_s, qJ_n, qV0, qEx, ↓qif0, ↓zchk_pos, ↓reduceIte, qput, qWW, qmW, qkW, qnW, K_37 hK, rl, l0]
