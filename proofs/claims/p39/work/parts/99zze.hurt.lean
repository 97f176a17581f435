/-! A copy comes back: a page is hurt. -/
theorem qhp_u (m : Int → Int → Int) (k h : Int) (hh : 0 ≤ h) (h0 : m 85 (160 * k + h) = 0) : ∀ n : Nat, qhp (qu m 85 (160 * k + h) 1) k n = qhp m k n + if h < n then 1 else 0 := by
  intro n
  induction n with
  | zero =>
    rw [if_neg (by omega)]
    rfl
  | succ n ih =>
    rw [qhp, qhp, ih, qu_row]
    show _ + (if (if 160 * k + (n : Int) = 160 * k + h then 1 else m 85 (160 * k + (n : Int))) = 0 then (0 : Int) else 1) = _
    by_cases c : (n : Int) = h
    · rw [if_pos (show 160 * k + (n : Int) = 160 * k + h by omega), if_neg (show ¬ h < (n : Int) by omega), if_pos (show h < ((n + 1 : Nat) : Int) by omega), if_neg (show ¬ (1 : Int) = 0 by decide), c, h0, if_pos rfl]
    · rw [if_neg (show ¬ 160 * k + (n : Int) = 160 * k + h by omega)]
      by_cases c2 : h < (n : Int)
      · rw [if_pos c2, if_pos (show h < ((n + 1 : Nat) : Int) by omega)]
        omega
      · rw [if_neg c2, if_neg (show ¬ h < ((n + 1 : Nat) : Int) by omega), Int.add_zero, Int.add_zero]
theorem qhp_s (m : Int → Int → Int) (k h : Int) (h1 : m 85 (160 * k + h) = 1) (n : Nat) : qhp (qu m 85 (160 * k + h) 1) k n = qhp m k n := qhp_e k n fun p _ => by
  rw [qu_row]
  show (if 160 * k + (p : Int) = 160 * k + h then 1 else m 85 (160 * k + (p : Int))) = _
  by_cases c : 160 * k + (p : Int) = 160 * k + h
  · rw [if_pos c, c, h1]
  · rw [if_neg c]
theorem r_lateBy2 (d : Nat) (S : zS) (k : Int) (h : 1 ≤ d) (hK : qK S) (hP : qP (zm S)) (hk : 0 ≤ k ∧ k < 20) (hd : 0 ≤ zm S 37 3 ∧ zm S 37 3 ≤ 1000) (h87 : -1 ≤ zm S 87 k ∧ zm S 87 k ≤ 1020) : zD d 302 [vr 37, vi k] S = some (.inl (some (vi (qlb (zm S) k))), S) := by
  obtain ⟨e, rfl, -⟩ := qd h
  unfold qlb
  by_cases c : zm S 87 k < zm S 37 3
  · rw [if_pos c]
    simp (config := { maxSteps := 2000000 }) (disch := first | omega | (simp only [K_37 hK, K_87 hK, P_37_71 hP, hk.1, hk.2, qb_in, qkW, qmW, qnW, true_and, and_true, or_self, true_or, or_true, and_self]; done) | (simp only [K_37 hK, K_87 hK, P_37_71 hP, hk.1, hk.2, qb_in, qkW, qmW, qnW, true_and, and_true, or_self, true_or, or_true, and_self]; omega)) only [zD_302, b302_0, b302_13, b302_27, b302_28, qcall_l, qcall_r, qretn_l, qJ_s, qJ_n, qV0, qEx, ↓qif0, ↓zchk_pos, ↓reduceIte, qput, qWW, qmW, qkW, qnW, K_37 hK, K_87 hK, P_37_71 hP, if_pos c, q32 (x := zm S 37 3 - zm S 87 k) ⟨by omega, by omega⟩]
  · rw [if_neg c]
    simp (config := { maxSteps := 2000000 }) (disch := first | omega | (simp only [K_37 hK, K_87 hK, P_37_71 hP, hk.1, hk.2, qb_in, qkW, qmW, qnW, true_and, and_true, or_self, true_or, or_true, and_self]; done) | (simp only [K_37 hK, K_87 hK, P_37_71 hP, hk.1, hk.2, qb_in, qkW, qmW, qnW, true_and, and_true, or_self, true_or, or_true, and_self]; omega)) only [zD_302, b302_0, b302_13, b302_27, b302_28, qcall_l, qcall_r, qretn_l, qJ_s, qJ_n, qV0, qEx, ↓qif0, ↓zchk_pos, ↓reduceIte, qput, qWW, qmW, qkW, qnW, K_37 hK, K_87 hK, P_37_71 hP, if_neg c]
theorem s_hurtPage (d : Nat) (S : zS) (k b x y w t P h : Int) (hd : 3 ≤ d) (hq : qCq S k b x y w t P) (kx : zk S x = (20, 0)) (x3 : zm S x 3 = w) (x4 : zm S x 4 = t) (y1 : zm S y 1 = x) (wr : 18 ≤ w ∧ w ≤ 40) (tr : 3 ≤ t ∧ t ≤ 25) (hPm : P ≤ qmp t) (hh : 0 ≤ h ∧ h < P) :
    ∃ m', zD d 47 [vr y, vi h] S = some (.inl none, qW S m') ∧ (∀ p, m' (y + 2) p = if p = h then 1 else zm S (y + 2) p) ∧ m' y 4 = qhp (qu (zm S) 85 (160 * k + h) 1) k 160 ∧ (∀ j, j ≠ 4 → m' y j = zm S y j) ∧ (∀ i : Nat, (i : Int) < P * (t * w) → m' (y + 1) i = if (i : Int) / (t * w) = h then 0 else zm S (y + 1) i) ∧ ∀ z, z ≠ y → z ≠ y + 1 → z ≠ y + 2 → m' z = zm S z := by
  obtain ⟨e, rfl, he⟩ := qd hd
  obtain ⟨-, ⟨-, -, -, P0, P121, tw0⟩, ⟨ky, ky1, ky2, y103, yn⟩, ⟨y2, y3, y4⟩, e1, e2, e3, e4, -⟩ := hq
  have he1 := e1 h hh.1 hh.2
  have he2 := e2 h hh.1 (by omega)
  have b0 : 0 ≤ h ∧ h < (zk S (y + 2)).2 := by rw [ky2]; exact hh
  by_cases c1 : zm S (y + 2) h = 0
  · -- it is hurt now
    obtain ⟨q1, q2⟩ := qrow (w := w) (t := t) (P := h + 1) (l := 0) (c := 0) wr tr ⟨by omega, by omega⟩ ⟨by omega, by omega⟩ ⟨by omega, by omega⟩
    rw [show h + 1 - 1 = h by omega] at q1 q2
    rw [Int.add_zero] at q2
    have bl := (qbl_r tr wr).2
    have m1 : (h + 1) * t = h * t + t := by rw [Int.add_mul, Int.one_mul]
    have m2 : (h * t + t) * w = h * t * w + t * w := Int.add_mul _ _ _
    have tw1 : t * w ≤ 1000 := by
      have h1 : t * w ≤ 25 * w := Int.mul_le_mul_of_nonneg_right (by omega) (by omega)
      omega
    have hP1 : h * (t * w) + t * w ≤ P * (t * w) := qixm (Int.le_of_lt tw0) hh.2
    have hasc : h * t * w = h * (t * w) := Int.mul_assoc _ _ _
    obtain ⟨F, hF⟩ : ∃ F, h * (t * w) = F := ⟨_, rfl⟩
    obtain ⟨D, hD⟩ : ∃ D, t * w = D := ⟨_, rfl⟩
    have F0 : 0 ≤ F := by omega
    rw [hD] at tw0 tw1
    obtain ⟨n, hn⟩ : ∃ n, P * (t * w) = n := ⟨_, rfl⟩
    rw [hn] at ky1
    have Fn : F + D ≤ n := by rw [← hF, ← hD, ← hn]; exact hP1
    have hyne : y ≠ y + 2 := by omega
    have xne : x ≠ y + 2 ∧ x ≠ y ∧ x ≠ y + 1 := ⟨qkne kx ky2 (by simp), qkne kx ky (by decide), qkne kx ky1 (by simp)⟩
    obtain ⟨M1, hM1⟩ : ∃ M1, qu (zm S) (y + 2) h 1 = M1 := ⟨_, rfl⟩
    have M1y : M1 y = zm S y := by rw [← hM1, qu_o _ _ _ _ _ hyne]
    have hr := qhp_r (zm S) k 160
    obtain ⟨M2, hM2⟩ : ∃ M2, qu M1 y 4 (qhp (zm S) k 160 + 1) = M2 := ⟨_, rfl⟩
    have M2x : M2 x = zm S x := by rw [← hM2, qu_o _ _ _ _ _ xne.2.1, ← hM1, qu_o _ _ _ _ _ xne.1]
    have M2y : ∀ j, j ≠ 4 → M2 y j = zm S y j := fun j hj => by rw [← hM2, qu_i _ _ _ _ _ hj, M1y]
    have M21 : M2 y 1 = x := by rw [M2y 1 (by decide), y1]
    have M22 : M2 y 2 = y + 1 := by rw [M2y 2 (by decide), y2]
    have i1 := s_indexOf e (qW S M2) x w t h 0 0 (by omega) kx (by show M2 x 3 = w; rw [M2x, x3]) (by show M2 x 4 = t; rw [M2x, x4]) (by omega) (by omega) (by rw [Int.add_zero]; omega) (by omega)
    have i2 := s_indexOf e (qW S M2) x w t (h + 1) 0 0 (by omega) kx (by show M2 x 3 = w; rw [M2x, x3]) (by show M2 x 4 = t; rw [M2x, x4]) (by rw [m1]; omega) (by omega) (by rw [Int.add_zero, m1, m2]; omega) (by omega)
    rw [Int.add_zero, Int.add_zero, hasc, hF] at i1
    rw [Int.add_zero, Int.add_zero, m1, m2, hasc, hF, hD] at i2
    have F2 : F + D ≤ 20000 := by
      rw [← hF, ← hD]
      omega
    have lp : ∀ (g : Nat) (i : Int) (M : Int → Int → Int) (x1 x2 : zV), F ≤ i → i + g = F + D → (∀ q, M (y + 1) q = if F ≤ q ∧ q < i then 0 else zm S (y + 1) q) → (∀ z, z ≠ y + 1 → M z = M2 z) →
        ∃ m', zF_47 e 71 [vr y, x1, x2, vi (F + D), vi i] [] (qW S M) = some (.inl none, qW S m') ∧ (∀ q, m' (y + 1) q = if F ≤ q ∧ q < F + D then 0 else zm S (y + 1) q) ∧ ∀ z, z ≠ y + 1 → m' z = M2 z := by
      intro g
      induction g with
      | zero =>
        intro i M x1 x2 hi hg h1 h2
        have hi2 : i = F + D := by omega
        refine ⟨M, ?_, fun q => by rw [h1, hi2], h2⟩
        rw [b47_71]
        simp (config := { maxSteps := 2000000 }) (disch := first | omega | (simp only [qb_in, qkW, qmW, qnW, true_and, and_true, or_self, true_or, or_true, and_self]; done) | (simp only [qb_in, qkW, qmW, qnW, true_and, and_true, or_self, true_or, or_true, and_self]; omega)) only [b47_0, b47_4, b47_13, b47_22, b47_23, b47_37, b47_50, b47_63, b47_77, b47_87, b47_101, qcall_l, qcall_r, qretn_l, qJ_s, qJ_n, qV0, qEx, ↓qif0, ↓zchk_pos, ↓reduceIte, qput, qWW, qmW, qkW, qnW, if_neg (show ¬ i < F + D by omega)]
      | succ g ih =>
        intro i M x1 x2 hi hg h1 h2
        have My2 : M y 2 = y + 1 := by rw [h2 y (by omega), M22]
        obtain ⟨m', r, z⟩ := ih (i + 1) (qu M (y + 1) i 0) vu vu (by omega) (by omega) (fun q => by
          rw [qu_row]
          show (if q = i then 0 else M (y + 1) q) = _
          rw [h1 q]
          by_cases c : q = i
          · rw [if_pos c, if_pos (by omega)]
          · rw [if_neg c]
            by_cases c2 : F ≤ q ∧ q < i
            · rw [if_pos c2, if_pos (by omega)]
            · rw [if_neg c2, if_neg (by omega)]) (fun z hz => by rw [qu_o _ _ _ _ _ hz, h2 z hz])
        refine ⟨m', ?_, z⟩
        have i0 : 0 ≤ i := by omega
        have iF : i < F + D := by omega
        have iN : i < n := by omega
        rw [b47_71]
        clear h1 h2 ih e1 e2 e3 e4
        simp (config := { maxSteps := 2000000 }) (disch := first | omega | (simp only [ky, My2, ky1, i0, iN, qb_in, qkW, qmW, qnW, true_and, and_true, or_self, true_or, or_true, and_self]; done) | (simp only [ky, My2, ky1, i0, iN, qb_in, qkW, qmW, qnW, true_and, and_true, or_self, true_or, or_true, and_self]; omega)) only [b47_0, b47_4, b47_13, b47_22, b47_23, b47_37, b47_50, b47_63, b47_77, b47_87, b47_101, qcall_l, qcall_r, qretn_l, qJ_s, qJ_n, qV0, qEx, ↓qif0, ↓zchk_pos, ↓reduceIte, qput, qWW, qmW, qkW, qnW, ky, My2, ky1, if_pos iF, if_pos iN, q32 (x := i + 1) ⟨by omega, by omega⟩, r, show ((0 + 128) % 256 - 128 : Int) = 0 from rfl]
    obtain ⟨m', r, g1, g2⟩ := lp D.toNat F M2 vu vu (Int.le_refl _) (by omega) (fun q => by
      rw [if_neg (by omega), ← hM2, qu_o _ _ _ _ _ (by omega), ← hM1, qu_o _ _ _ _ _ (by omega)]) (fun _ _ => rfl)
    have r2 : ∀ x1 x2, zF_47 e 71 [vr y, x1, x2, vi (F + D), vi F] [] (qW S M2) = some (.inl none, qW S m') := fun x1 x2 => by
      rw [b47_71] at r ⊢
      exact r
    refine ⟨m', ?_, fun p => ?_, ?_, fun j hj => ?_, fun i hi => ?_, fun z z1 z2 z3 => ?_⟩
    · have y3' : M1 y 3 = y + 2 := by rw [M1y, y3]
      have y4' : M1 y 4 = qhp (zm S) k 160 := by rw [M1y, y4]
      have f0 : (if (0 : Int) < F then F else 0) = F := by split <;> omega
      have P2 : h < P := hh.2
      clear lp g1 g2 e1 e2 e3 e4
      simp (config := { maxSteps := 2000000 }) (disch := first | omega | (simp only [ky, y3, ky2, hh.1, P2, M21, kx, qb_in, qkW, qmW, qnW, true_and, and_true, or_self, true_or, or_true, and_self]; done) | (simp only [ky, y3, ky2, hh.1, P2, M21, kx, qb_in, qkW, qmW, qnW, true_and, and_true, or_self, true_or, or_true, and_self]; omega)) only [zD_47, b47_0, b47_4, b47_13, b47_22, b47_23, b47_37, b47_50, b47_63, b47_77, b47_87, b47_101, qcall_l, qcall_r, qretn_l, qJ_s, qJ_n, qV0, qEx, ↓qif0, ↓zchk_pos, ↓reduceIte, qput, qWW, qmW, qkW, qnW, if_neg (show ¬ h < 0 by omega), ky, y3, ky2, if_pos P2, c1, hM1, y4', q32 (x := qhp (zm S) k 160 + 1) ⟨by omega, by omega⟩, hM2, M21, kx, i1, q32 (x := h + 1) ⟨by omega, by omega⟩, i2, f0, r2, Int.reduceLE, and_self, and_true]
    · rw [g2 _ (by omega), ← hM2, qu_o _ _ _ _ _ (by omega), ← hM1, qu_row]
    · rw [g2 _ (by omega), ← hM2, qu_s, qhp_u (zm S) k h hh.1 (by rw [← he1, c1]), if_pos (by omega)]
    · rw [g2 _ (by omega), M2y j hj]
    · rw [g1, hD]
      have dv : ((i : Int) / D = h) ↔ (F ≤ (i : Int) ∧ (i : Int) < F + D) := by
        have a1 := Int.mul_ediv_add_emod (i : Int) D
        have a2 := Int.emod_nonneg (i : Int) (show D ≠ 0 by omega)
        have a3 := Int.emod_lt_of_pos (i : Int) tw0
        have a4 : D * ((i : Int) / D) = (i : Int) / D * D := Int.mul_comm _ _
        have a5 : h * D = F := by rw [← hD]; exact hF
        constructor
        · intro q
          rw [q] at a1 a4
          omega
        · intro q
          rcases Int.lt_trichotomy ((i : Int) / D) h with c | c | c
          · have := qixm (w := D) (a := (i : Int) / D) (b := h) (by omega) c
            omega
          · exact c
          · have := qixm (w := D) (a := h) (b := (i : Int) / D) (by omega) c
            omega
      by_cases c : (i : Int) / D = h
      · rw [if_pos (dv.mp c), if_pos c]
      · rw [if_neg (fun q => c (dv.mpr q)), if_neg c]
    · rw [g2 z z2, ← hM2, qu_o _ _ _ _ _ z1, ← hM1, qu_o _ _ _ _ _ z3]
  · have h1 : zm S 85 (160 * k + h) = 1 := by omega
    refine ⟨zm S, ?_, fun p => ?_, ?_, fun _ _ => rfl, fun i hi => ?_, fun _ _ _ _ => rfl⟩
    · have P2 : h < P := hh.2
      rw [qWS]
      simp (config := { maxSteps := 2000000 }) (disch := first | omega | (simp only [ky, y3, ky2, hh.1, P2, qb_in, qkW, qmW, qnW, true_and, and_true, or_self, true_or, or_true, and_self]; done) | (simp only [ky, y3, ky2, hh.1, P2, qb_in, qkW, qmW, qnW, true_and, and_true, or_self, true_or, or_true, and_self]; omega)) only [zD_47, b47_0, b47_4, b47_13, b47_22, b47_23, b47_37, b47_50, b47_63, b47_77, b47_87, b47_101, qcall_l, qcall_r, qretn_l, qJ_s, qJ_n, qV0, qEx, ↓qif0, ↓zchk_pos, ↓reduceIte, qput, qWW, qmW, qkW, qnW, if_neg (show ¬ h < 0 by omega), ky, y3, ky2, if_pos P2, if_neg c1]
    · by_cases c : p = h
      · rw [if_pos c, c, he1, h1]
      · rw [if_neg c]
    · rw [qhp_s _ _ _ h1, y4]
    · by_cases c : (i : Int) / (t * w) = h
      · rw [if_pos c, e4 i hi, c, h1, if_neg (by decide)]
      · rw [if_neg c]
