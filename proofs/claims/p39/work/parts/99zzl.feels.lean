/-! What is felt: the reference goes over a copy, pin by pin. -/
def qfi (W k : Nat) : Nat := k / 40 * W + if k % 40 < W then k % 40 else W
theorem qfi_s (W k : Nat) (h : W ≤ 40) : qfi W (k + 1) = qfi W k + if k % 40 < W then 1 else 0 := by
  unfold qfi
  by_cases c : k % 40 = 39
  · rw [show (k + 1) / 40 = k / 40 + 1 by omega, show (k + 1) % 40 = 0 by omega, Nat.add_mul, Nat.one_mul]
    generalize k / 40 * W = A
    split <;> split <;> omega
  · rw [show (k + 1) / 40 = k / 40 by omega, show (k + 1) % 40 = k % 40 + 1 by omega]
    generalize k / 40 * W = A
    split <;> split <;> omega
theorem qdv40 (k : Nat) (N : Int) (h : (k : Int) < N * 40) : ((k / 40 : Nat) : Int) < N := by omega
theorem r_feelA (e : Nat) (S : zS) (kc b w t P : Int) (f : Int → Int) (W k j : Nat) (left : Int) (x7 x8 x9 x10 : zV) (he : 5 ≤ e) (hK : qK S) (hP : qP (zm S)) (hb : 0 ≤ b ∧ b < 4) (hl : qLc S b f w t P) (hW : w = (W : Int)) (hk : (k : Int) < P * t * 40) :
    zF_278 e 54 [vr 37, vi kc, vi b, vi P, vi (j : Int), vi left, vi (k : Int), x7, x8, x9, x10] [] S = zF_278 e 124 [vr 37, vi kc, vi b, vi P, vi (j : Int), vi left, vi (k : Int), vu, vu, vu, vu] [vi (if k % 40 < W then f (qfi W k) else 0)] S := by
  obtain ⟨wr, tr, ⟨P0, P1, P2⟩, ⟨h51, h52⟩, hcell⟩ := hl
  have p19 := P_37_19 hP
  have p20 := P_37_20 hP
  have Pt : 0 ≤ P * t := Int.mul_nonneg P0 (by omega)
  have Pt2 : P * t ≤ 121 * 25 := by
    have h1 : P * t ≤ 121 * t := Int.mul_le_mul_of_nonneg_right P1 (by omega)
    omega
  have z1 : z32 (P * t) = P * t := q32 (by omega)
  have z2 : z32 (P * t * 40) = P * t * 40 := q32 (by omega)
  have td : Int.tdiv (k : Int) 40 = ((k / 40 : Nat) : Int) := by rw [Int.tdiv_eq_ediv_of_nonneg (by omega)]; omega
  have tm : Int.tmod (k : Int) 40 = ((k % 40 : Nat) : Int) := by rw [Int.tmod_eq_emod_of_nonneg (by omega)]; omega
  have z3 : z32 ((k / 40 : Nat) : Int) = ((k / 40 : Nat) : Int) := q32 (by omega)
  rw [b278_54]
  by_cases c : k % 40 < W
  · have c1 : ((k % 40 : Nat) : Int) < w := by omega
    have ln : ((k / 40 : Nat) : Int) < P * t := qdv40 k _ hk
    obtain ⟨L, hL⟩ : ∃ L, k / 40 = L := ⟨_, rfl⟩
    obtain ⟨c0, hc0⟩ : ∃ c0, k % 40 = c0 := ⟨_, rfl⟩
    rw [hL] at ln
    have k1 := Int.mul_ediv_add_emod (L : Int) t
    have k2 := Int.emod_nonneg (L : Int) (show t ≠ 0 by omega)
    have k3 := Int.emod_lt_of_pos (L : Int) (show 0 < t by omega)
    have k0 : 0 ≤ (L : Int) / t := Int.ediv_nonneg (by omega) (by omega)
    have k4 : (L : Int) / t < P := Int.ediv_lt_of_lt_mul (by omega) ln
    have k5 : t * ((L : Int) / t) = (L : Int) / t * t := Int.mul_comm _ _
    have td2 : Int.tdiv (L : Int) t = (L : Int) / t := Int.tdiv_eq_ediv_of_nonneg (by omega)
    have tm2 : Int.tmod (L : Int) t = (L : Int) % t := Int.tmod_eq_emod_of_nonneg (by omega)
    have z4 : z32 ((L : Int) / t) = (L : Int) / t := q32 (by omega)
    have ce := hcell e ((L : Int) / t) ((L : Int) % t) (c0 : Int) he k0 k4 k2 k3 (by omega) (by omega)
    rw [show ((L : Int) / t * t + (L : Int) % t) * w + (c0 : Int) = ((qfi W k : Nat) : Int) by
      unfold qfi
      rw [if_pos c, hL, hc0, show (L : Int) / t * t + (L : Int) % t = (L : Int) by omega, hW, Int.natCast_add, Int.natCast_mul]] at ce
    rw [if_pos c]
    rw [hL] at td z3
    rw [hc0] at tm c1
    clear hcell k1 k5 ln
    simp (config := { maxSteps := 2000000 }) (disch := first | omega | (simp only [K_37 hK, K_51 hK, K_52 hK, p19, p20, h51, h52, qb_in, qkW, qmW, qnW, true_and, and_true, or_self, true_or, or_true, and_self]; done) | (simp only [K_37 hK, K_51 hK, K_52 hK, p19, p20, h51, h52, qb_in, qkW, qmW, qnW, true_and, and_true, or_self, true_or, or_true, and_self]; omega)) only [b278_0, b278_12, b278_21, b278_22, b278_37, b278_52, b278_70, b278_87, b278_95, b278_109, b278_120, b278_123, b278_137, b278_142, b278_146, b278_147, b278_156, b278_160, b278_161, b278_175, b278_179, b278_186, b278_191, b278_198, b278_199, b278_207, b278_213, qcall_l, qcall_r, qretn_l, qJ_s, qJ_n, qV0, qEx, ↓qif0, ↓zchk_pos, ↓reduceIte, qput, qWW, qmW, qkW, qnW, K_37 hK, K_51 hK, K_52 hK, p19, p20, h51, h52, z1, z2, if_pos hk, td, tm, z3, if_pos c1, td2, tm2, z4, ce]
  · have c1 : ¬ ((k % 40 : Nat) : Int) < w := by omega
    rw [if_neg c]
    simp (config := { maxSteps := 2000000 }) (disch := first | omega | (simp only [K_37 hK, K_51 hK, K_52 hK, p19, p20, h51, h52, qb_in, qkW, qmW, qnW, true_and, and_true, or_self, true_or, or_true, and_self]; done) | (simp only [K_37 hK, K_51 hK, K_52 hK, p19, p20, h51, h52, qb_in, qkW, qmW, qnW, true_and, and_true, or_self, true_or, or_true, and_self]; omega)) only [b278_0, b278_12, b278_21, b278_22, b278_37, b278_52, b278_70, b278_87, b278_95, b278_109, b278_120, b278_123, b278_137, b278_142, b278_146, b278_147, b278_156, b278_160, b278_161, b278_175, b278_179, b278_186, b278_191, b278_198, b278_199, b278_207, b278_213, qcall_l, qcall_r, qretn_l, qJ_s, qJ_n, qV0, qEx, ↓qif0, ↓zchk_pos, ↓reduceIte, qput, qWW, qmW, qkW, qnW, K_37 hK, K_51 hK, K_52 hK, p19, p20, h51, h52, z1, z2, if_pos hk, td, tm, z3, if_neg c1]
theorem r_feelB (e : Nat) (S : zS) (kc b P v left : Int) (k j : Nat) (x7 x8 x9 x10 : zV) (hj : j < 6) :
    zF_278 e 124 [vr 37, vi kc, vi b, vi P, vi (j : Int), vi left, vi (k : Int), x7, x8, x9, x10] [vi v] S = zF_278 e 161 [vr 37, vi kc, vi b, vi P, vi (j : Int), vu, vi (k : Int), vu, vu, vu, vi (if qbt v j = 1 ∧ 0 < left then 1 else 0)] [vi (if qbt v j = 1 ∧ 0 < left then 1 else 0), vi left] S := by
  have bz := qbt_z v (j : Int) ⟨by omega, by omega⟩
  have br := qbt_r v j
  rw [b278_124]
  by_cases c : qbt v j = 1
  · by_cases c2 : 0 < left
    · rw [if_pos (show qbt v j = 1 ∧ 0 < left from ⟨c, c2⟩)]
      simp (config := { maxSteps := 2000000 }) (disch := first | omega | (simp only [qb_in, qkW, qmW, qnW, true_and, and_true, or_self, true_or, or_true, and_self]; done) | (simp only [qb_in, qkW, qmW, qnW, true_and, and_true, or_self, true_or, or_true, and_self]; omega)) only [b278_0, b278_12, b278_21, b278_22, b278_37, b278_52, b278_70, b278_87, b278_95, b278_109, b278_120, b278_123, b278_124, b278_137, b278_142, b278_146, b278_147, b278_156, b278_160, b278_175, b278_179, b278_186, b278_191, b278_198, b278_199, b278_207, b278_213, qcall_l, qcall_r, qretn_l, qJ_s, qJ_n, qV0, qEx, ↓qif0, ↓zchk_pos, ↓reduceIte, qput, qWW, qmW, qkW, qnW, bz, c, if_pos c2, Int.reduceEq]
    · rw [if_neg (show ¬ (qbt v j = 1 ∧ 0 < left) from fun q => c2 q.2)]
      simp (config := { maxSteps := 2000000 }) (disch := first | omega | (simp only [qb_in, qkW, qmW, qnW, true_and, and_true, or_self, true_or, or_true, and_self]; done) | (simp only [qb_in, qkW, qmW, qnW, true_and, and_true, or_self, true_or, or_true, and_self]; omega)) only [b278_0, b278_12, b278_21, b278_22, b278_37, b278_52, b278_70, b278_87, b278_95, b278_109, b278_120, b278_123, b278_124, b278_137, b278_142, b278_146, b278_147, b278_156, b278_160, b278_175, b278_179, b278_186, b278_191, b278_198, b278_199, b278_207, b278_213, qcall_l, qcall_r, qretn_l, qJ_s, qJ_n, qV0, qEx, ↓qif0, ↓zchk_pos, ↓reduceIte, qput, qWW, qmW, qkW, qnW, bz, c, if_neg c2, Int.reduceEq]
  · have c0 : qbt v j = 0 := br.resolve_right c
    rw [if_neg (show ¬ (qbt v j = 1 ∧ 0 < left) from fun q => c q.1)]
    simp (config := { maxSteps := 2000000 }) (disch := first | omega | (simp only [qb_in, qkW, qmW, qnW, true_and, and_true, or_self, true_or, or_true, and_self]; done) | (simp only [qb_in, qkW, qmW, qnW, true_and, and_true, or_self, true_or, or_true, and_self]; omega)) only [b278_0, b278_12, b278_21, b278_22, b278_37, b278_52, b278_70, b278_87, b278_95, b278_109, b278_120, b278_123, b278_124, b278_137, b278_142, b278_146, b278_147, b278_156, b278_160, b278_175, b278_179, b278_186, b278_191, b278_198, b278_199, b278_207, b278_213, qcall_l, qcall_r, qretn_l, qJ_s, qJ_n, qV0, qEx, ↓qif0, ↓zchk_pos, ↓reduceIte, qput, qWW, qmW, qkW, qnW, bz, c0, Int.reduceEq]
theorem r_feelC (e : Nat) (S : zS) (m : Int → Int → Int) (kc b P left i : Int) (k j : Nat) (hK : qK S) (hP : qP m) (hj : j < 6) (hk : k < 16000) (hi : i = 0 ∨ i = 1) (hl : 0 ≤ left ∧ left ≤ 100000) :
    zF_278 e 161 [vr 37, vi kc, vi b, vi P, vi (j : Int), vu, vi (k : Int), vu, vu, vu, vi i] [vi i, vi left] (qW S m) = zF_278 e 54 [vr 37, vi kc, vi b, vi P, vi (j : Int), vi (left - i), vi ((k + 1 : Nat) : Int), vu, vu, vu, vu] [] (qW S (qu m 89 k (zor (if j = 0 then 0 else m 89 k) (if i = 0 then 0 else zshl 1 (j : Int))))) := by
  have p74 := P_37_74 hP
  have z1 : z32 (left - i) = left - i := q32 (by omega)
  have k0 : 0 ≤ (k : Int) := Int.natCast_nonneg k
  have k1 : (k : Int) < 16000 := Int.ofNat_lt.mpr hk
  have z2 := z32_s k (by omega)
  by_cases c1 : j = 0
  · subst c1
    rw [if_pos (show 0 = 0 from rfl)]
    rcases hi with rfl | rfl
    · rw [if_pos (show (0 : Int) = 0 from rfl)]
      rw [b278_161]
      simp (config := { maxSteps := 2000000 }) (disch := first | omega | (simp only [K_37 hK, K_89 hK, p74, k0, k1, qb_in, qkW, qmW, qnW, true_and, and_true, or_self, true_or, or_true, and_self]; done) | (simp only [K_37 hK, K_89 hK, p74, k0, k1, qb_in, qkW, qmW, qnW, true_and, and_true, or_self, true_or, or_true, and_self]; omega)) only [b278_0, b278_12, b278_21, b278_22, b278_37, b278_52, b278_70, b278_87, b278_95, b278_109, b278_120, b278_123, b278_137, b278_142, b278_146, b278_147, b278_156, b278_160, b278_175, b278_179, b278_186, b278_191, b278_198, b278_199, b278_207, b278_213, qcall_l, qcall_r, qretn_l, qJ_s, qJ_n, qV0, qEx, ↓qif0, ↓zchk_pos, ↓reduceIte, qput, qWW, qmW, qkW, qnW, K_37 hK, K_89 hK, p74, z1, z2, show ((0 : Nat) : Int) = 0 from rfl, Int.reduceEq]
    · rw [if_neg (show ¬ (1 : Int) = 0 by decide)]
      rw [b278_161]
      simp (config := { maxSteps := 2000000 }) (disch := first | omega | (simp only [K_37 hK, K_89 hK, p74, k0, k1, qb_in, qkW, qmW, qnW, true_and, and_true, or_self, true_or, or_true, and_self]; done) | (simp only [K_37 hK, K_89 hK, p74, k0, k1, qb_in, qkW, qmW, qnW, true_and, and_true, or_self, true_or, or_true, and_self]; omega)) only [b278_0, b278_12, b278_21, b278_22, b278_37, b278_52, b278_70, b278_87, b278_95, b278_109, b278_120, b278_123, b278_137, b278_142, b278_146, b278_147, b278_156, b278_160, b278_175, b278_179, b278_186, b278_191, b278_198, b278_199, b278_207, b278_213, qcall_l, qcall_r, qretn_l, qJ_s, qJ_n, qV0, qEx, ↓qif0, ↓zchk_pos, ↓reduceIte, qput, qWW, qmW, qkW, qnW, K_37 hK, K_89 hK, p74, z1, z2, show ((0 : Nat) : Int) = 0 from rfl, Int.reduceEq]
  · have cj : ¬ (j : Int) = 0 := by omega
    rw [if_neg c1]
    rcases hi with rfl | rfl
    · rw [if_pos (show (0 : Int) = 0 from rfl)]
      rw [b278_161]
      simp (config := { maxSteps := 2000000 }) (disch := first | omega | (simp only [K_37 hK, K_89 hK, p74, k0, k1, qb_in, qkW, qmW, qnW, true_and, and_true, or_self, true_or, or_true, and_self]; done) | (simp only [K_37 hK, K_89 hK, p74, k0, k1, qb_in, qkW, qmW, qnW, true_and, and_true, or_self, true_or, or_true, and_self]; omega)) only [b278_0, b278_12, b278_21, b278_22, b278_37, b278_52, b278_70, b278_87, b278_95, b278_109, b278_120, b278_123, b278_137, b278_142, b278_146, b278_147, b278_156, b278_160, b278_175, b278_179, b278_186, b278_191, b278_198, b278_199, b278_207, b278_213, qcall_l, qcall_r, qretn_l, qJ_s, qJ_n, qV0, qEx, ↓qif0, ↓zchk_pos, ↓reduceIte, qput, qWW, qmW, qkW, qnW, K_37 hK, K_89 hK, p74, z1, z2, if_neg cj, Int.reduceEq]
    · rw [if_neg (show ¬ (1 : Int) = 0 by decide)]
      rw [b278_161]
      simp (config := { maxSteps := 2000000 }) (disch := first | omega | (simp only [K_37 hK, K_89 hK, p74, k0, k1, qb_in, qkW, qmW, qnW, true_and, and_true, or_self, true_or, or_true, and_self]; done) | (simp only [K_37 hK, K_89 hK, p74, k0, k1, qb_in, qkW, qmW, qnW, true_and, and_true, or_self, true_or, or_true, and_self]; omega)) only [b278_0, b278_12, b278_21, b278_22, b278_37, b278_52, b278_70, b278_87, b278_95, b278_109, b278_120, b278_123, b278_137, b278_142, b278_146, b278_147, b278_156, b278_160, b278_175, b278_179, b278_186, b278_191, b278_198, b278_199, b278_207, b278_213, qcall_l, qcall_r, qretn_l, qJ_s, qJ_n, qV0, qEx, ↓qif0, ↓zchk_pos, ↓reduceIte, qput, qWW, qmW, qkW, qnW, K_37 hK, K_89 hK, p74, z1, z2, if_neg cj, Int.reduceEq]
def qFi (m0 m : Int → Int → Int) (f r : Int → Int) (W j k R : Nat) : Prop := (∀ z i, ¬ (z = 89 ∨ (z = 37 ∧ i = 75)) → m z i = m0 z i) ∧ m 37 75 = m0 37 75 ∧ ∀ q : Nat, q < R * 40 → q % 40 < W → 0 < j ∨ q < k → m 89 q = qfwx f r (if q < k then j + 1 else j) (qfi W q)
theorem qFi_P {m0 m : Int → Int → Int} {f r : Int → Int} {W j k R : Nat} (h : qFi m0 m f r W j k R) (hP : qP m0) : qP m := hP.same fun q hq => by
  have n := qPt_n q hq
  exact h.1 q.1 q.2.1 (by omega)
theorem r_feelStep (e : Nat) (S : zS) (m0 m : Int → Int → Int) (kc b w t P : Int) (f r : Int → Int) (W k j R : Nat) (x7 x8 x9 x10 : zV) (he : 5 ≤ e) (hK : qK S) (hP : qP m0) (hb : 0 ≤ b ∧ b < 4) (hl : ∀ m, (∀ z i, ¬ (z = 89 ∨ (z = 37 ∧ i = 75)) → m z i = m0 z i) → qLc (qW S m) b f w t P) (hW : w = (W : Int)) (hR : P * t = (R : Int)) (hR2 : R ≤ 363) (hk : k < R * 40) (hj : j < 6) (hr : 0 ≤ r j ∧ r j ≤ 100000) (hF : qFi m0 m f r W j k R) :
    ∃ m', zF_278 e 54 [vr 37, vi kc, vi b, vi P, vi (j : Int), vi (r j - qmn (r j) (qsb f j (qfi W k))), vi (k : Int), x7, x8, x9, x10] [] (qW S m) = zF_278 e 54 [vr 37, vi kc, vi b, vi P, vi (j : Int), vi (r j - qmn (r j) (qsb f j (qfi W (k + 1)))), vi ((k + 1 : Nat) : Int), vu, vu, vu, vu] [] (qW S m') ∧ qFi m0 m' f r W j (k + 1) R := by
  have hPm := qFi_P hF hP
  obtain ⟨F0, F75, F1⟩ := hF
  have lc := hl m F0
  have W40 : W ≤ 40 := by have := lc.1; omega
  obtain ⟨s, hs⟩ : ∃ s, qsb f j (qfi W k) = s := ⟨_, rfl⟩
  have sr := qsb_r f j (qfi W k)
  rw [hs] at sr
  have A := r_feelA e (qW S m) kc b w t P f W k j (r j - qmn (r j) s) x7 x8 x9 x10 he hK hPm hb lc hW (by rw [hR]; omega)
  obtain ⟨v, hv⟩ : ∃ v, (if k % 40 < W then f (qfi W k) else 0) = v := ⟨_, rfl⟩
  rw [hv] at A
  have B := r_feelB e (qW S m) kc b P v (r j - qmn (r j) s) k j vu vu vu vu hj
  obtain ⟨i, hi⟩ : ∃ i, (if qbt v j = 1 ∧ 0 < r j - qmn (r j) s then (1 : Int) else 0) = i := ⟨_, rfl⟩
  rw [hi] at B
  have ir : i = 0 ∨ i = 1 := by rw [← hi]; split <;> omega
  have lr : 0 ≤ r j - qmn (r j) s ∧ r j - qmn (r j) s ≤ 100000 := by unfold qmn; split <;> omega
  have C := r_feelC e S m kc b P (r j - qmn (r j) s) i k j hK hPm hj (by omega) ir lr
  have sn := qfi_s W k W40
  have br := qbt_r v j
  obtain ⟨s1, s2, s3⟩ := qgm_s (r j) s (qbt v j) br sr.1 hr.1
  -- what is left then
  have nx : qsb f j (qfi W (k + 1)) = s + qbt v j := by
    rw [sn, ← hv]
    by_cases c : k % 40 < W
    · rw [if_pos c, if_pos c, qsb, hs]
    · rw [if_neg c, if_neg c, qbt_0, Nat.add_zero, hs, Int.add_zero]
  have lf : r j - qmn (r j) (qsb f j (qfi W (k + 1))) = r j - qmn (r j) s - i := by
    rw [nx, ← hi]
    by_cases c : qbt v j = 1
    · by_cases c2 : s < r j
      · obtain ⟨t1, -, t3⟩ := s1 ⟨c, c2⟩
        rw [if_pos ⟨c, t3⟩, ← t1]
      · obtain ⟨t1, -, t3⟩ := s2 ⟨c, c2⟩
        rw [if_neg (fun q => t3 q.2), ← t1, Int.sub_zero]
    · obtain ⟨t1, -⟩ := s3 (br.resolve_right c)
      rw [if_neg (fun q => c q.1), ← t1, Int.sub_zero]
  refine ⟨_, by rw [hs, A, B, C, lf], fun z q hz => ?_, ?_, fun q q1 q2 q3 => ?_⟩
  · rw [qu_o _ _ _ _ _ (by omega)]
    exact F0 z q hz
  · rw [qu_o _ _ _ _ _ (by decide), F75]
  · rw [qu_row]
    show (if (q : Int) = (k : Int) then _ else m 89 q) = _
    by_cases c : q = k
    · subst c
      rw [if_pos rfl, if_pos (show q < q + 1 from Nat.lt_succ_self q), qfwx]
      have vk : v = f (qfi W q) := by rw [← hv, if_pos q2]
      have base : (if j = 0 then 0 else m 89 q) = qfwx f r j (qfi W q) := by
        by_cases c1 : j = 0
        · rw [if_pos c1, c1]
          rfl
        · rw [if_neg c1, F1 q q1 q2 (by omega), if_neg (by omega)]
      rw [base, hs, ← vk]
      by_cases c : qbt v j = 1
      · by_cases c2 : s < r j
        · obtain ⟨-, -, t3⟩ := s1 ⟨c, c2⟩
          rw [if_pos ⟨c, t3⟩] at hi
          rw [← hi, if_neg (by decide), if_pos ⟨c, c2⟩]
          exact qfwx_o f r j (qfi W q) hj
        · obtain ⟨-, -, t3⟩ := s2 ⟨c, c2⟩
          rw [if_neg (fun q => t3 q.2)] at hi
          rw [← hi, if_pos rfl, if_neg (fun q => c2 q.2), Int.add_zero]
          exact qfwx_z f r j (qfi W q) (by omega)
      · rw [if_neg (fun q => c q.1)] at hi
        rw [← hi, if_pos rfl, if_neg (fun q => c q.1), Int.add_zero]
        exact qfwx_z f r j (qfi W q) (by omega)
    · rw [if_neg (by omega), F1 q q1 q2 (by omega)]
      by_cases c2 : q < k
      · rw [if_pos c2, if_pos (by omega)]
      · rw [if_neg c2, if_neg (by omega)]
theorem r_feelRow (e : Nat) (S : zS) (m0 : Int → Int → Int) (kc b w t P : Int) (f r : Int → Int) (W j R : Nat) (he : 5 ≤ e) (hK : qK S) (hP : qP m0) (hb : 0 ≤ b ∧ b < 4) (hl : ∀ m, (∀ z i, ¬ (z = 89 ∨ (z = 37 ∧ i = 75)) → m z i = m0 z i) → qLc (qW S m) b f w t P) (hW : w = (W : Int)) (hR : P * t = (R : Int)) (hR2 : R ≤ 363) (hj : j < 6) (hr : 0 ≤ r j ∧ r j ≤ 100000) :
    ∀ (G k : Nat) (m : Int → Int → Int) (x7 x8 x9 x10 : zV), k + G = R * 40 → qFi m0 m f r W j k R → ∃ m', zF_278 e 54 [vr 37, vi kc, vi b, vi P, vi (j : Int), vi (r j - qmn (r j) (qsb f j (qfi W k))), vi (k : Int), x7, x8, x9, x10] [] (qW S m) = zF_278 e 30 [vr 37, vi kc, vi b, vi P, vi ((j + 1 : Nat) : Int), vu, vu, vu, vu, vu, vu] [] (qW S m') ∧ qFi m0 m' f r W (j + 1) 0 R := by
  intro G
  induction G with
  | zero =>
    intro k m x7 x8 x9 x10 hk hF
    have hPm := qFi_P hF hP
    obtain ⟨wr, tr, ⟨P0, P1, P2⟩, ⟨h51, h52⟩, -⟩ := hl m hF.1
    have h52 : m 52 b = t := h52
    have p20 := P_37_20 hPm
    have z1 : z32 (P * t) = P * t := q32 (by omega)
    have z2 : z32 (P * t * 40) = P * t * 40 := q32 (by omega)
    have nk : ¬ (k : Int) < P * t * 40 := by omega
    refine ⟨m, ?_, hF.1, hF.2.1, fun q q1 q2 _ => ?_⟩
    · rw [b278_54]
      simp (config := { maxSteps := 2000000 }) (disch := first | omega | (simp only [K_37 hK, K_52 hK, p20, qb_in, qkW, qmW, qnW, true_and, and_true, or_self, true_or, or_true, and_self]; done) | (simp only [K_37 hK, K_52 hK, p20, qb_in, qkW, qmW, qnW, true_and, and_true, or_self, true_or, or_true, and_self]; omega)) only [b278_0, b278_12, b278_21, b278_22, b278_37, b278_52, b278_70, b278_87, b278_95, b278_109, b278_120, b278_123, b278_137, b278_142, b278_146, b278_147, b278_156, b278_160, b278_175, b278_179, b278_186, b278_191, b278_198, b278_199, b278_207, b278_213, qcall_l, qcall_r, qretn_l, qJ_s, qJ_n, qV0, qEx, ↓qif0, ↓zchk_pos, ↓reduceIte, qput, qWW, qmW, qkW, qnW, K_37 hK, K_52 hK, p20, h52, z1, z2, if_neg nk, z32_s j (by omega)]
    · have := hF.2.2 q q1 q2 (Or.inr (by omega))
      rw [if_pos (show q < k by omega)] at this
      rw [if_neg (Nat.not_lt_zero q), this]
  | succ G ih =>
    intro k m x7 x8 x9 x10 hk hF
    obtain ⟨m1, r1, F1⟩ := r_feelStep e S m0 m kc b w t P f r W k j R x7 x8 x9 x10 he hK hP hb hl hW hR hR2 (by omega) hj hr hF
    obtain ⟨m', r2, F2⟩ := ih (k + 1) m1 vu vu vu vu (by omega) F1
    exact ⟨m', by rw [r1, r2], F2⟩
theorem r_feelPins (e : Nat) (S : zS) (m0 : Int → Int → Int) (kc b w t P : Int) (f r : Int → Int) (W R : Nat) (he : 5 ≤ e) (hK : qK S) (hP : qP m0) (hb : 0 ≤ b ∧ b < 4) (hl : ∀ m, (∀ z i, ¬ (z = 89 ∨ (z = 37 ∧ i = 75)) → m z i = m0 z i) → qLc (qW S m) b f w t P) (hW : w = (W : Int)) (hR : P * t = (R : Int)) (hR2 : R ≤ 363) (hk : 0 ≤ kc ∧ kc < 20) (hr : ∀ q, 0 ≤ q → q < 6 → m0 83 (6 * kc + q) = r q ∧ 0 ≤ r q ∧ r q ≤ 100000) :
    ∀ (G j : Nat) (m : Int → Int → Int) (x5 x6 x7 x8 x9 x10 : zV), j + G = 6 → qFi m0 m f r W j 0 R → ∃ m', zF_278 e 30 [vr 37, vi kc, vi b, vi P, vi (j : Int), x5, x6, x7, x8, x9, x10] [] (qW S m) = some (.inl none, qW S m') ∧ qFi m0 m' f r W 6 0 R := by
  intro G
  induction G with
  | zero =>
    intro j m x5 x6 x7 x8 x9 x10 hj hF
    obtain rfl : j = 6 := by omega
    refine ⟨m, ?_, hF⟩
    rw [b278_30]
    simp (config := { maxSteps := 2000000 }) (disch := first | omega | (simp only [qb_in, qkW, qmW, qnW, true_and, and_true, or_self, true_or, or_true, and_self]; done) | (simp only [qb_in, qkW, qmW, qnW, true_and, and_true, or_self, true_or, or_true, and_self]; omega)) only [b278_0, b278_12, b278_21, b278_22, b278_37, b278_52, b278_70, b278_87, b278_95, b278_109, b278_120, b278_123, b278_137, b278_142, b278_146, b278_147, b278_156, b278_160, b278_175, b278_179, b278_186, b278_191, b278_198, b278_199, b278_207, b278_213, qcall_l, qcall_r, qretn_l, qJ_s, qJ_n, qV0, qEx, ↓qif0, ↓zchk_pos, ↓reduceIte, qput, qWW, qmW, qkW, qnW, if_neg (show ¬ ((6 : Nat) : Int) < 6 by decide)]
  | succ G ih =>
    intro j m x5 x6 x7 x8 x9 x10 hj hF
    have hPm := qFi_P hF hP
    have j0 : 0 ≤ (j : Int) := Int.natCast_nonneg j
    have j6n : j < 6 := by omega
    have j6 : (j : Int) < 6 := by omega
    obtain ⟨r1, r2, r3⟩ := hr j j0 j6
    obtain ⟨m1, R1, F1⟩ := r_feelRow e S m0 kc b w t P f r W j R he hK hP hb hl hW hR hR2 (by omega) ⟨r2, r3⟩ (R * 40) 0 m vu vu vu vu (by omega) hF
    rw [show r j - qmn (r j) (qsb f j (qfi W 0)) = r j by
      have : qfi W 0 = 0 := by
        unfold qfi
        show 0 * W + (if 0 < W then 0 else W) = 0
        rw [Nat.zero_mul]
        split <;> omega
      rw [this]
      show r j - qmn (r j) 0 = r j
      unfold qmn
      rw [if_neg (by omega)]
      omega] at R1
    have R1 : zF_278 e 54 [vr 37, vi kc, vi b, vi P, vi (j : Int), vi (r j), vi 0, vu, vu, vu, vu] [] (qW S m) = zF_278 e 30 [vr 37, vi kc, vi b, vi P, vi ((j + 1 : Nat) : Int), vu, vu, vu, vu, vu, vu] [] (qW S m1) := R1
    obtain ⟨m', R2, F2⟩ := ih (j + 1) m1 vu vu vu vu vu vu (by omega) F1
    refine ⟨m', ?_, F2⟩
    rw [← R2, ← R1]
    have p67 := P_37_67 hPm
    have m83 : m 83 (6 * kc + (j : Int)) = r j := by rw [hF.1 83 _ (by omega), r1]
    have z1 : z32 (6 * kc) = 6 * kc := q32 (by omega)
    have z2 : z32 (6 * kc + (j : Int)) = 6 * kc + j := q32 (by omega)
    clear ih R1 R2 F1 F2 hF hl hr
    rw [b278_30]
    simp (config := { maxSteps := 2000000 }) (disch := first | omega | (simp only [K_37 hK, K_83 hK, p67, z1, z2, qb_in, qkW, qmW, qnW, true_and, and_true, or_self, true_or, or_true, and_self]; done) | (simp only [K_37 hK, K_83 hK, p67, z1, z2, qb_in, qkW, qmW, qnW, true_and, and_true, or_self, true_or, or_true, and_self]; omega)) only [b278_0, b278_12, b278_21, b278_22, b278_37, b278_52, b278_70, b278_87, b278_95, b278_109, b278_120, b278_123, b278_137, b278_142, b278_146, b278_147, b278_156, b278_160, b278_175, b278_179, b278_186, b278_191, b278_198, b278_199, b278_207, b278_213, qcall_l, qcall_r, qretn_l, qJ_s, qJ_n, qV0, qEx, ↓qif0, ↓zchk_pos, ↓reduceIte, qput, qWW, qmW, qkW, qnW, K_37 hK, K_83 hK, p67, if_pos j6, z1, z2, m83]
/-- a copy is felt -/
theorem r_feels (d : Nat) (S : zS) (kc b x w t P : Int) (f r : Int → Int) (h : 12 ≤ d) (hH : qHB1 S) (hb : 0 ≤ b ∧ b < zm S 37 16) (hk : 0 ≤ kc ∧ kc < 20) (h82 : zm S 82 kc = b) (h8 : zm S 8 b = x) (h51 : zm S 51 b = w) (h52 : zm S 52 b = t) (h9 : zm S x 9 = P) (hf : zm S (x + 2) = f) (hx : 103 ≤ x) (hr : ∀ q, 0 ≤ q → q < 6 → zm S 83 (6 * kc + q) = r q ∧ 0 ≤ r q ∧ r q ≤ 100000)
    (hF : zm S 37 75 = kc → ∀ p l c : Int, 0 ≤ p → p < P → 0 ≤ l → l < t → 0 ≤ c → c < w → zm S 89 (40 * (p * t + l) + c) = qfwx f r 6 ((p * t + l) * w + c).toNat) :
    ∃ m', zD d 278 [vr 37, vi kc] S = some (.inl none, qW S m') ∧ (∀ z i, ¬ (qfly z i ∨ z = 89 ∨ (z = 37 ∧ i = 75)) → m' z i = zm S z i) ∧ m' 37 75 = kc ∧ (∀ p l c : Int, 0 ≤ p → p < P → 0 ≤ l → l < t → 0 ≤ c → c < w → m' 89 (40 * (p * t + l) + c) = qfwx f r 6 ((p * t + l) * w + c).toNat) ∧ qHB1 (qW S m') ∧ qLd (qW S m') b := by
  obtain ⟨e, rfl, he⟩ := qd h
  have hK := hH.1.1.1
  have hP := hH.1.1.2.1
  have b4 : b < 4 := by have := hH.1.2.2.1.2; omega
  have p66 := P_37_66 hP
  obtain ⟨m1, r1, f1, H1, l1⟩ := r_pagesOf e S b (by omega) hH hb
  rw [h8, h9] at r1
  have o1 : ∀ z i, ¬ qfly z i → m1 z i = zm S z i := f1
  have e75 : m1 37 75 = zm S 37 75 := o1 37 75 (by unfold qfly; omega)
  by_cases c1 : zm S 37 75 = kc
  · refine ⟨m1, ?_, fun z i hz => o1 z i (fun q => hz (Or.inl q)), by rw [e75, c1], fun p l c p1 p2 q1 q2 c2 c3 => by rw [o1 89 _ (by unfold qfly; omega)]; exact hF c1 p l c p1 p2 q1 q2 c2 c3, H1, l1⟩
    have e75' : m1 37 75 = kc := e75.trans c1
    simp (config := { maxSteps := 2000000 }) (disch := first | omega | (simp only [K_37 hK, K_82 hK, p66, hk.1, hk.2, qb_in, qkW, qmW, qnW, true_and, and_true, or_self, true_or, or_true, and_self]; done) | (simp only [K_37 hK, K_82 hK, p66, hk.1, hk.2, qb_in, qkW, qmW, qnW, true_and, and_true, or_self, true_or, or_true, and_self]; omega)) only [zD_278, b278_0, b278_12, b278_21, b278_22, b278_37, b278_52, b278_70, b278_87, b278_95, b278_109, b278_120, b278_123, b278_137, b278_142, b278_146, b278_147, b278_156, b278_160, b278_175, b278_179, b278_186, b278_191, b278_198, b278_199, b278_207, b278_213, qcall_l, qcall_r, qretn_l, qJ_s, qJ_n, qV0, qEx, ↓qif0, ↓zchk_pos, ↓reduceIte, qput, qWW, qmW, qkW, qnW, K_37 hK, K_82 hK, p66, h82, r1, e75']
  · obtain ⟨m2, hm2⟩ : ∃ m2, qu m1 37 75 kc = m2 := ⟨_, rfl⟩
    have ag : ∀ m : Int → Int → Int, (∀ z i, ¬ (z = 89 ∨ (z = 37 ∧ i = 75)) → m z i = m2 z i) → (∀ z i, ¬ (z = 89 ∨ (z = 37 ∧ i = 75)) → m z i = m1 z i) := fun m g z i hz => by
      rw [g z i hz, ← hm2]
      by_cases q : z = 37
      · subst q
        exact qu_i _ _ _ _ _ (by omega)
      · rw [qu_o _ _ _ _ _ q]
    have hb1 : ∀ m, (∀ z i, ¬ (z = 89 ∨ (z = 37 ∧ i = 75)) → m z i = m1 z i) → qHB1 (qW S m) ∧ qLd (qW S m) b := fun m g => by
      refine ⟨qHB1_m (S := qW S m1) H1 ⟨⟨Nat.le_refl _, fun _ _ => rfl⟩, fun z i _ hz => g z i (by unfold qEh at hz; omega)⟩, ?_, ?_⟩
      · show m 37 50 = b
        rw [g 37 50 (by omega)]
        exact l1.1
      · show m 37 51 = m 54 b
        rw [g 37 51 (by omega), g 54 b (by omega)]
        exact l1.2
    have lie : ∀ m, (∀ z i, ¬ (z = 89 ∨ (z = 37 ∧ i = 75)) → m z i = m2 z i) → qLc (qW S m) b f w t P := fun m g => by
      have g1 := ag m g
      have gs : ∀ z i, ¬ (qfly z i ∨ z = 89 ∨ (z = 37 ∧ i = 75)) → m z i = zm S z i := fun z i hz => by rw [g1 z i (fun q => hz (Or.inr q)), o1 z i (fun q => hz (Or.inl q))]
      obtain ⟨H2, l2⟩ := hb1 m g1
      have li := q_lies H2 (by show 0 ≤ b ∧ b < m 37 16; rw [gs 37 16 (by unfold qfly; omega)]; exact hb) l2
      rw [show zm (qW S m) 8 b = x by show m 8 b = x; rw [gs 8 b (by unfold qfly; omega), h8], show zm (qW S m) 51 b = w by show m 51 b = w; rw [gs 51 b (by unfold qfly; omega), h51], show zm (qW S m) 52 b = t by show m 52 b = t; rw [gs 52 b (by unfold qfly; omega), h52], show zm (qW S m) x 9 = P by show m x 9 = P; rw [gs x 9 (by unfold qfly; omega), h9], show zm (qW S m) (x + 2) = f by show m (x + 2) = f; rw [← hf]; exact funext fun i => gs _ i (by unfold qfly; omega)] at li
      exact li
    have L2 := lie m2 (fun _ _ _ => rfl)
    obtain ⟨wr, tr, ⟨P0, P1, P2⟩, -⟩ := L2
    obtain ⟨W, hW⟩ : ∃ W : Nat, w = (W : Int) := ⟨w.toNat, by omega⟩
    have Pt : 0 ≤ P * t := Int.mul_nonneg P0 (by omega)
    obtain ⟨R, hR⟩ : ∃ R : Nat, P * t = (R : Int) := ⟨(P * t).toNat, by omega⟩
    have hR2 : R ≤ 363 := by
      obtain ⟨J, fL, fE, fA, fU, fM, P', ll, w0, -⟩ := hH.2 b hb.1 hb.2
      obtain ⟨Pr, x9, -⟩ := qB0_P w0 (by rw [h51]; exact wr.1) (by rw [h52]; exact tr)
      rw [h8, h9] at x9
      rw [h52] at Pr
      obtain ⟨-, -, q3, -⟩ := qmp_r tr
      have : P * t ≤ qmp t * t := Int.mul_le_mul_of_nonneg_right (by omega) (by omega)
      omega
    have P2m : qP m2 := (hb1 m2 (ag m2 fun _ _ _ => rfl)).1.1.1.2.1
    obtain ⟨m', r2, F2⟩ := r_feelPins e S m2 kc b w t P f r W R (by omega) hK P2m ⟨hb.1, b4⟩ lie hW hR hR2 hk (fun q q1 q2 => by
      rw [ag m2 (fun _ _ _ => rfl) 83 _ (by omega), o1 83 _ (by unfold qfly; omega)]
      exact hr q q1 q2) 6 0 m2 vu vu vu vu vu vu (by omega) ⟨fun _ _ _ => rfl, rfl, fun q q1 q2 q3 => by omega⟩
    have r2 : zF_278 e 30 [vr 37, vi kc, vi b, vi P, vi 0, vu, vu, vu, vu, vu, vu] [] (qW S m2) = some (.inl none, qW S m') := r2
    have g1 := ag m' F2.1
    obtain ⟨H3, l3⟩ := hb1 m' g1
    refine ⟨m', ?_, fun z i hz => by rw [g1 z i (fun q => hz (Or.inr q)), o1 z i (fun q => hz (Or.inl q))], by rw [F2.2.1, ← hm2, qu_s], fun p l c p1 p2 q1 q2 c2 c3 => ?_, H3, l3⟩
    · have n75 : ¬ m1 37 75 = kc := fun q => c1 (e75.symm.trans q)
      clear F2 g1 ag hb1 lie hF hr o1 f1
      simp (config := { maxSteps := 2000000 }) (disch := first | omega | (simp only [K_37 hK, K_82 hK, p66, hk.1, hk.2, qb_in, qkW, qmW, qnW, true_and, and_true, or_self, true_or, or_true, and_self]; done) | (simp only [K_37 hK, K_82 hK, p66, hk.1, hk.2, qb_in, qkW, qmW, qnW, true_and, and_true, or_self, true_or, or_true, and_self]; omega)) only [zD_278, b278_0, b278_12, b278_21, b278_22, b278_37, b278_52, b278_70, b278_87, b278_95, b278_109, b278_120, b278_123, b278_137, b278_142, b278_146, b278_147, b278_156, b278_160, b278_175, b278_179, b278_186, b278_191, b278_198, b278_199, b278_207, b278_213, qcall_l, qcall_r, qretn_l, qJ_s, qJ_n, qV0, qEx, ↓qif0, ↓zchk_pos, ↓reduceIte, qput, qWW, qmW, qkW, qnW, K_37 hK, K_82 hK, p66, h82, r1, if_neg n75, hm2, r2]
    · have pt0 : 0 ≤ p * t := Int.mul_nonneg p1 (by omega)
      have pt1 : p * t + t ≤ P * t := qixm (by omega) p2
      obtain ⟨L, hL⟩ : ∃ L : Nat, p * t + l = (L : Int) := ⟨(p * t + l).toNat, by omega⟩
      obtain ⟨c0, rfl⟩ : ∃ c0 : Nat, c = (c0 : Int) := ⟨c.toNat, by omega⟩
      have := F2.2.2 (40 * L + c0) (by omega) (by omega) (Or.inl (by decide))
      rw [if_neg (Nat.not_lt_zero _)] at this
      rw [hL, show 40 * (L : Int) + (c0 : Int) = ((40 * L + c0 : Nat) : Int) by omega, this]
      congr 1
      unfold qfi
      rw [show (40 * L + c0) / 40 = L by omega, show (40 * L + c0) % 40 = c0 by omega, if_pos (show c0 < W by omega), hW]
      have : ((L : Int) * (W : Int) + (c0 : Int)) = ((L * W + c0 : Nat) : Int) := by rw [Int.natCast_add, Int.natCast_mul]
      rw [this, Int.toNat_natCast]
