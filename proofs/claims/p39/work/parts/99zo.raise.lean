/-! Pins raise dots: what is felt of a copy, the class. -/
def qmn (a b : Int) : Int := if a < b then a else b
/-- a cell as it is felt, so many pins told -/
def qfwx (f r : Int → Int) : Nat → Nat → Int
  | 0, _ => 0
  | j + 1, i => qfwx f r j i + if qbt (f i) j = 1 ∧ qsb f j i < r j then 2 ^ j else 0
theorem qfwx_r (f r : Int → Int) : ∀ (j i : Nat), 0 ≤ qfwx f r j i ∧ qfwx f r j i < 2 ^ j := by
  intro j
  induction j with
  | zero => intro i; exact ⟨Int.le_refl _, by show (0 : Int) < 1; decide⟩
  | succ j ih =>
    intro i
    have := ih i
    have p : (2 : Int) ^ (j + 1) = 2 ^ j * 2 := Int.pow_succ 2 j
    rw [qfwx, p]
    split <;> omega
theorem zor_2 : ∀ j : Nat, j < 6 → ∀ a : Nat, a < 2 ^ j → zor (a : Int) (zshl 1 (j : Int)) = (a : Int) + 2 ^ j := by decide +kernel
theorem zor_0 : ∀ a : Nat, a < 64 → zor (a : Int) 0 = (a : Int) := by decide +kernel
theorem pow2_64 (j : Nat) (h : j ≤ 6) : (2 : Int) ^ j ≤ 64 := by
  have : j = 0 ∨ j = 1 ∨ j = 2 ∨ j = 3 ∨ j = 4 ∨ j = 5 ∨ j = 6 := by omega
  rcases this with rfl | rfl | rfl | rfl | rfl | rfl | rfl <;> decide
theorem qfwx_o (f r : Int → Int) (j i : Nat) (h : j < 6) : zor (qfwx f r j i) (zshl 1 (j : Int)) = qfwx f r j i + 2 ^ j := by
  have b := qfwx_r f r j i
  have := zor_2 j h (qfwx f r j i).toNat (by
    have p := pow2_64 j (by omega)
    have e : ((2 ^ j : Nat) : Int) = 2 ^ j := by rw [Int.natCast_pow]; rfl
    omega)
  rw [show (((qfwx f r j i).toNat : Nat) : Int) = qfwx f r j i by omega] at this
  exact this
theorem qfwx_z (f r : Int → Int) (j i : Nat) (h : j ≤ 6) : zor (qfwx f r j i) 0 = qfwx f r j i := by
  have b := qfwx_r f r j i
  have p := pow2_64 j h
  have := zor_0 (qfwx f r j i).toNat (by omega)
  rw [show (((qfwx f r j i).toNat : Nat) : Int) = qfwx f r j i by omega] at this
  exact this
/-- what is missing of a pin's dots -/
def qgm (f c : Int → Int) (q : Int) (i : Nat) : Int := qsb f q i - qmn (c q) (qsb f q i)
def qps (g : Int → Int) : Nat → Int
  | 0 => 0
  | j + 1 => qps g j + g j
theorem qgm_r (f c : Int → Int) (q : Int) (i : Nat) (hc : 0 ≤ c q) : 0 ≤ qgm f c q i ∧ qgm f c q i ≤ i := by
  have := qsb_r f q i
  unfold qgm qmn
  split <;> omega
theorem qps_r (f c : Int → Int) (i : Nat) : ∀ j : Nat, (∀ q : Int, 0 ≤ q → q < j → 0 ≤ c q) → 0 ≤ qps (fun q => qgm f c q i) j ∧ qps (fun q => qgm f c q i) j ≤ j * i := by
  intro j
  induction j with
  | zero => intro _; exact ⟨Int.le_refl _, by rw [Int.natCast_zero, Int.zero_mul]; exact Int.le_refl _⟩
  | succ j ih =>
    intro h
    have h1 := ih fun q q1 q2 => h q q1 (by omega)
    have h2 := qgm_r f c j i (h j (by omega) (by omega))
    have e : ((j + 1 : Nat) : Int) * i = j * i + i := by rw [Int.natCast_add, Int.add_mul, Int.natCast_one, Int.one_mul]
    rw [qps, e]
    omega
theorem z32_s (j : Nat) (h : (j : Int) < 2147483647) : z32 ((j : Int) + 1) = ((j + 1 : Nat) : Int) := by
  rw [q32 ⟨by omega, by omega⟩]
  rfl
/-- numbers of one pin -/
theorem qps_z (f c : Int → Int) (i : Nat) : ∀ j : Nat, (∀ q : Int, 0 ≤ q → q < j → 0 ≤ c q) → qps (fun q => qgm f c q i) j = 0 → ∀ q : Int, 0 ≤ q → q < j → qgm f c q i = 0 := by
  intro j
  induction j with
  | zero => intro _ _ q q1 q2; omega
  | succ j ih =>
    intro h hz q q1 q2
    have a := (qps_r f c i j fun q q1 q2 => h q q1 (by omega)).1
    have b := (qgm_r f c (j : Int) i (h j (by omega) (by omega))).1
    rw [qps] at hz
    by_cases e : q = j
    · rw [e]
      omega
    · exact ih (fun q q1 q2 => h q q1 (by omega)) (by omega) q q1 (by omega)
theorem qgm_s (cj s b : Int) (hb : b = 0 ∨ b = 1) (hs : 0 ≤ s) (hc : 0 ≤ cj) :
    (b = 1 ∧ s < cj → cj - qmn cj s - 1 = cj - qmn cj (s + b) ∧ s + b - qmn cj (s + b) = s - qmn cj s ∧ 0 < cj - qmn cj s) ∧ (b = 1 ∧ ¬ s < cj → cj - qmn cj s = cj - qmn cj (s + b) ∧ s + b - qmn cj (s + b) = s - qmn cj s + 1 ∧ ¬ 0 < cj - qmn cj s) ∧ (b = 0 → cj - qmn cj s = cj - qmn cj (s + b) ∧ s + b - qmn cj (s + b) = s - qmn cj s) := by
  unfold qmn
  refine ⟨fun h => ?_, fun h => ?_, fun h => ?_⟩
  · rw [if_neg (show ¬ cj < s by omega), if_neg (show ¬ cj < s + b by omega)]
    omega
  · rw [if_pos (show cj < s + b by omega)]
    split <;> omega
  · rw [show s + b = s by omega]
    exact ⟨rfl, rfl⟩
theorem s_raiseStep (e : Nat) (S : zS) (y p : Int) (f c : Int → Int) (i : Nat) (v M0 : Int) (j : Nat) (hv : v = f i) (ky : zk S y = (24, 0)) (kp : zk S p = (0, 6)) (hyp : y ≠ p) (hc : ∀ q : Int, 0 ≤ q → q < 6 → 0 ≤ c q ∧ c q ≤ 100000) (hi : i < 20000) (hM : 0 ≤ M0 ∧ M0 ≤ 200000) (jn : j < 6) (m : Int → Int → Int) (x6 : zV)
    (h1 : ∀ q : Int, 0 ≤ q → q < 6 → m p q = if q < j then c q - qmn (c q) (qsb f q (i + 1)) else c q - qmn (c q) (qsb f q i)) (h2 : m y 5 = M0 + qps (fun q => qgm f c q (i + 1)) j - qps (fun q => qgm f c q i) j)
    (ih : ∀ m1 : Int → Int → Int, (∀ q : Int, 0 ≤ q → q < 6 → m1 p q = if q < ((j + 1 : Nat) : Int) then c q - qmn (c q) (qsb f q (i + 1)) else c q - qmn (c q) (qsb f q i)) → m1 y 5 = M0 + qps (fun q => qgm f c q (i + 1)) (j + 1) - qps (fun q => qgm f c q i) (j + 1) →
      ∃ m', zF_40 e 26 [vr y, vr p, vi (i : Int), vi v, vi (qfwx f c (j + 1) i), vi ((j + 1 : Nat) : Int), vu] [] (qW S m1) = zF_40 e 103 [vr y, vr p, vi (i : Int), vi v, vi (qfwx f c 6 i), vi 6, vu] [] (qW S m') ∧ (∀ q : Int, 0 ≤ q → q < 6 → m' p q = c q - qmn (c q) (qsb f q (i + 1))) ∧ m' y 5 = M0 + qps (fun q => qgm f c q (i + 1)) 6 - qps (fun q => qgm f c q i) 6 ∧ (∀ z, z ≠ y → z ≠ p → m' z = m1 z) ∧ ∀ k, k ≠ 5 → m' y k = m1 y k) :
    ∃ m', zF_40 e 26 [vr y, vr p, vi (i : Int), vi v, vi (qfwx f c j i), vi (j : Int), x6] [] (qW S m) = zF_40 e 103 [vr y, vr p, vi (i : Int), vi v, vi (qfwx f c 6 i), vi 6, vu] [] (qW S m') ∧ (∀ q : Int, 0 ≤ q → q < 6 → m' p q = c q - qmn (c q) (qsb f q (i + 1))) ∧ m' y 5 = M0 + qps (fun q => qgm f c q (i + 1)) 6 - qps (fun q => qgm f c q i) 6 ∧ (∀ z, z ≠ y → z ≠ p → m' z = m z) ∧ ∀ k, k ≠ 5 → m' y k = m y k := by
  have jlt : (j : Int) < 6 := Int.ofNat_lt.mpr jn
  have j0 : 0 ≤ (j : Int) := Int.natCast_nonneg j
  have cj := hc j j0 jlt
  have mj := h1 j j0 jlt
  rw [if_neg (Int.lt_irrefl _)] at mj
  have sr := qsb_r f j i
  have br := qbt_r (f i) j
  have zc : z32 (c j - qmn (c j) (qsb f j i) - 1) = c j - qmn (c j) (qsb f j i) - 1 := q32 (by unfold qmn; split <;> omega)
  have ps1 := qps_r f c (i + 1) j (fun q q1 q2 => (hc q q1 (Int.lt_trans q2 jlt)).1)
  have ps0 := qps_r f c i j (fun q q1 q2 => (hc q q1 (Int.lt_trans q2 jlt)).1)
  have jb1 : (j : Int) * ((i + 1 : Nat) : Int) ≤ 6 * ((i + 1 : Nat) : Int) := Int.mul_le_mul_of_nonneg_right (Int.le_of_lt jlt) (Int.natCast_nonneg _)
  have jb0 : (j : Int) * (i : Int) ≤ 6 * (i : Int) := Int.mul_le_mul_of_nonneg_right (Int.le_of_lt jlt) (Int.natCast_nonneg _)
  have oth : ∀ q : Int, q ≠ j → (if q < ((j + 1 : Nat) : Int) then c q - qmn (c q) (qsb f q (i + 1)) else c q - qmn (c q) (qsb f q i)) = if q < (j : Int) then c q - qmn (c q) (qsb f q (i + 1)) else c q - qmn (c q) (qsb f q i) := fun q hq => by
    by_cases c3 : q < (j : Int)
    · rw [if_pos c3, if_pos (by omega)]
    · rw [if_neg c3, if_neg (by omega)]
  have own : ((j : Nat) : Int) < ((j + 1 : Nat) : Int) := Int.ofNat_lt.mpr (Nat.lt_succ_self j)
  obtain ⟨W, hW⟩ : ∃ W, M0 + qps (fun q => qgm f c q (i + 1)) j - qps (fun q => qgm f c q i) j = W := ⟨_, rfl⟩
  have Wr : -1000000 ≤ W ∧ W ≤ 1000000 := by omega
  have nx : M0 + qps (fun q => qgm f c q (i + 1)) (j + 1) - qps (fun q => qgm f c q i) (j + 1) = W + (qsb f j i + qbt (f i) j - qmn (c j) (qsb f j i + qbt (f i) j)) - (qsb f j i - qmn (c j) (qsb f j i)) := by
    show M0 + (qps (fun q => qgm f c q (i + 1)) j + (qsb f j i + qbt (f i) j - qmn (c j) (qsb f j i + qbt (f i) j))) - (qps (fun q => qgm f c q i) j + (qsb f j i - qmn (c j) (qsb f j i))) = _
    omega
  rw [hW] at h2
  rw [nx] at ih
  clear nx ps1 ps0 jb1 jb0 hW
  obtain ⟨s1, s2, s3⟩ := qgm_s (c j) (qsb f j i) (qbt (f i) j) br sr.1 cj.1
  have zW : z32 (W + 1) = W + 1 := q32 ⟨by clear s1 s2 s3 zc; omega, by clear s1 s2 s3 zc; omega⟩
  have ew : qfwx f c (j + 1) i = qfwx f c j i + if qbt (f i) j = 1 ∧ qsb f j i < c j then 2 ^ j else 0 := rfl
  clear Wr hi hM
  by_cases cb : qbt (f i) j = 1
  · by_cases cr : qsb f j i < c j
    · obtain ⟨t1, t2, t3⟩ := s1 ⟨cb, cr⟩
      rw [if_pos ⟨cb, cr⟩] at ew
      obtain ⟨m', r, g3, g4, g5, g6⟩ := ih (qu m p j (c j - qmn (c j) (qsb f j i) - 1)) (fun q q1 q2 => by
        rw [qu_row]
        show (if q = (j : Int) then _ else m p q) = _
        by_cases cq : q = j
        · rw [if_pos cq, cq, if_pos own, t1]
          rfl
        · rw [if_neg cq, h1 q q1 q2, oth q cq]) (by rw [qu_o _ _ _ _ _ hyp, h2, t2, Int.add_sub_cancel])
      refine ⟨m', ?_, g3, g4, fun z z1 z2 => by rw [g5 z z1 z2, qu_o _ _ _ _ _ z2], fun k hk => by rw [g6 k hk, qu_o _ _ _ _ _ hyp]⟩
      rw [← r, ew, b40_26, hv]
      clear r g3 g4 g5 g6 ih h1 oth s1 s2 s3 t1 t2 hc br sr cj ew own
      simp (config := { maxSteps := 2000000 }) (disch := first | omega | (simp only [kp, ky, qb_in, qkW, qmW, qnW, true_and, and_true, or_self, true_or, or_true, and_self]; done) | (simp only [kp, ky, qb_in, qkW, qmW, qnW, true_and, and_true, or_self, true_or, or_true, and_self]; omega)) only [b40_0, b40_11, b40_19, b40_33, b40_43, b40_47, b40_48, b40_55, b40_62, b40_75, b40_82, b40_87, b40_97, b40_118, qcall_l, qcall_r, qretn_l, qJ_s, qJ_n, qV0, qEx, ↓qif0, ↓zchk_pos, ↓reduceIte, qput, qWW, qmW, qkW, qnW, kp, ky, if_pos jlt, qbt_z (f i) j ⟨j0, Int.lt_trans jlt (by decide)⟩, cb, mj, if_pos t3, Int.reduceEq, zc, qfwx_o f c j i jn, z32_s j (Int.lt_trans jlt (by decide))]
    · obtain ⟨t1, t2, t3⟩ := s2 ⟨cb, cr⟩
      rw [if_neg (fun q => cr q.2), Int.add_zero] at ew
      obtain ⟨m', r, g3, g4, g5, g6⟩ := ih (qu m y 5 (W + 1)) (fun q q1 q2 => by
        rw [qu_o _ _ _ _ _ (Ne.symm hyp), h1 q q1 q2]
        by_cases cq : q = j
        · rw [cq, if_neg (Int.lt_irrefl _), if_pos own, t1]
          rfl
        · rw [oth q cq]) (by rw [qu_s, t2]; clear zW zc ew s1 s2 s3 t1 t3 oth h1 ih; omega)
      refine ⟨m', ?_, g3, g4, fun z z1 z2 => by rw [g5 z z1 z2, qu_o _ _ _ _ _ z1], fun k hk => by rw [g6 k hk, qu_i _ _ _ _ _ hk]⟩
      rw [← r, ew, b40_26, hv]
      clear r g3 g4 g5 g6 ih h1 oth s1 s2 s3 t1 t2 hc br sr cj ew own
      simp (config := { maxSteps := 2000000 }) (disch := first | omega | (simp only [kp, ky, qb_in, qkW, qmW, qnW, true_and, and_true, or_self, true_or, or_true, and_self]; done) | (simp only [kp, ky, qb_in, qkW, qmW, qnW, true_and, and_true, or_self, true_or, or_true, and_self]; omega)) only [b40_0, b40_11, b40_19, b40_33, b40_43, b40_47, b40_48, b40_55, b40_62, b40_75, b40_82, b40_87, b40_97, b40_118, qcall_l, qcall_r, qretn_l, qJ_s, qJ_n, qV0, qEx, ↓qif0, ↓zchk_pos, ↓reduceIte, qput, qWW, qmW, qkW, qnW, kp, ky, if_pos jlt, qbt_z (f i) j ⟨j0, Int.lt_trans jlt (by decide)⟩, cb, mj, if_neg t3, Int.reduceEq, h2, zW, z32_s j (Int.lt_trans jlt (by decide))]
  · have c0 : qbt (f i) j = 0 := br.resolve_right cb
    obtain ⟨t1, t2⟩ := s3 c0
    rw [if_neg (fun q => cb q.1), Int.add_zero] at ew
    obtain ⟨m', r, g⟩ := ih m (fun q q1 q2 => by
      rw [h1 q q1 q2]
      by_cases cq : q = j
      · rw [cq, if_neg (Int.lt_irrefl _), if_pos own, t1]
        rfl
      · rw [oth q cq]) (by rw [h2, t2, Int.add_sub_cancel])
    refine ⟨m', ?_, g⟩
    rw [← r, ew, b40_26, hv]
    clear r g ih h1 oth s1 s2 s3 t1 t2 hc br sr cj ew own
    simp (config := { maxSteps := 2000000 }) (disch := first | omega | (simp only [kp, ky, qb_in, qkW, qmW, qnW, true_and, and_true, or_self, true_or, or_true, and_self]; done) | (simp only [kp, ky, qb_in, qkW, qmW, qnW, true_and, and_true, or_self, true_or, or_true, and_self]; omega)) only [b40_0, b40_11, b40_19, b40_33, b40_43, b40_47, b40_48, b40_55, b40_62, b40_75, b40_82, b40_87, b40_97, b40_118, qcall_l, qcall_r, qretn_l, qJ_s, qJ_n, qV0, qEx, ↓qif0, ↓zchk_pos, ↓reduceIte, qput, qWW, qmW, qkW, qnW, kp, ky, if_pos jlt, qbt_z (f i) j ⟨j0, Int.lt_trans jlt (by decide)⟩, c0, Int.reduceEq, z32_s j (Int.lt_trans jlt (by decide))]
/-- one cell is raised, pin by pin -/
theorem s_raiseCell (e : Nat) (S : zS) (y p : Int) (f c : Int → Int) (i : Nat) (v M0 : Int) (hv : v = f i) (ky : zk S y = (24, 0)) (kp : zk S p = (0, 6)) (hyp : y ≠ p) (hc : ∀ q : Int, 0 ≤ q → q < 6 → 0 ≤ c q ∧ c q ≤ 100000) (hi : i < 20000) (hM : 0 ≤ M0 ∧ M0 ≤ 200000) :
    ∀ (G j : Nat) (m : Int → Int → Int) (x6 : zV), j + G = 6 → (∀ q : Int, 0 ≤ q → q < 6 → m p q = if q < j then c q - qmn (c q) (qsb f q (i + 1)) else c q - qmn (c q) (qsb f q i)) → m y 5 = M0 + qps (fun q => qgm f c q (i + 1)) j - qps (fun q => qgm f c q i) j →
      ∃ m', zF_40 e 26 [vr y, vr p, vi (i : Int), vi v, vi (qfwx f c j i), vi (j : Int), x6] [] (qW S m) = zF_40 e 103 [vr y, vr p, vi (i : Int), vi v, vi (qfwx f c 6 i), vi 6, vu] [] (qW S m') ∧ (∀ q : Int, 0 ≤ q → q < 6 → m' p q = c q - qmn (c q) (qsb f q (i + 1))) ∧ m' y 5 = M0 + qps (fun q => qgm f c q (i + 1)) 6 - qps (fun q => qgm f c q i) 6 ∧ (∀ z, z ≠ y → z ≠ p → m' z = m z) ∧ ∀ k, k ≠ 5 → m' y k = m y k := by
  intro G
  induction G with
  | zero =>
    intro j m x6 hj h1 h2
    obtain rfl : j = 6 := by omega
    refine ⟨m, ?_, fun q q1 q2 => by rw [h1 q q1 q2, if_pos (by omega)], h2, fun _ _ _ => rfl, fun _ _ => rfl⟩
    rw [b40_26]
    simp (config := { maxSteps := 2000000 }) (disch := first | omega | (simp only [kp, qb_in, qkW, qmW, qnW, true_and, and_true, or_self, true_or, or_true, and_self]; done) | (simp only [kp, qb_in, qkW, qmW, qnW, true_and, and_true, or_self, true_or, or_true, and_self]; omega)) only [b40_0, b40_11, b40_19, b40_33, b40_43, b40_47, b40_48, b40_55, b40_62, b40_75, b40_82, b40_87, b40_97, b40_103, b40_118, qcall_l, qcall_r, qretn_l, qJ_s, qJ_n, qV0, qEx, ↓qif0, ↓zchk_pos, ↓reduceIte, qput, qWW, qmW, qkW, qnW, kp, if_neg (show ¬ ((6 : Nat) : Int) < 6 by decide)]
  | succ G ih =>
    intro j m x6 hj h1 h2
    have jn : j < 6 := by omega
    exact s_raiseStep e S y p f c i v M0 j hv ky kp hyp hc hi hM jn m x6 h1 h2 fun m1 g1 g2 => ih (j + 1) m1 vu (by omega) g1 g2
theorem qps_0 (f c : Int → Int) (hc : ∀ q : Int, 0 ≤ q → q < 6 → 0 ≤ c q) : ∀ j : Nat, j ≤ 6 → qps (fun q => qgm f c q 0) j = 0 := by
  intro j
  induction j with
  | zero => intro _; rfl
  | succ j ih =>
    intro h
    have cj := hc j (by omega) (by omega)
    rw [qps, ih (by omega)]
    show 0 + (0 - qmn (c j) 0) = 0
    unfold qmn
    rw [if_neg (by omega)]
    rfl
/-- all cells of a book are raised -/
theorem s_raise (d : Nat) (S : zS) (x y p : Int) (f c : Int → Int) (n : Nat) (h : 2 ≤ d) (kx : zk S x = (20, 0)) (N : Int) (kc : zk S (x + 2) = (3, N)) (hN : (n : Int) ≤ N) (ky : zk S y = (24, 0)) (kf : zk S (y + 1) = (3, (n : Int))) (kp : zk S p = (0, 6)) (hne : x ≠ y ∧ x ≠ y + 1 ∧ x + 2 ≠ y ∧ x + 2 ≠ y + 1 ∧ y ≠ p) (x8 : zm S x 8 = x + 2) (y1 : zm S y 1 = x) (y2 : zm S y 2 = y + 1) (y5 : zm S y 5 = 0) (hf : ∀ i : Int, 0 ≤ i → i < n → zm S (x + 2) i = f i) (hp : ∀ q : Int, 0 ≤ q → q < 6 → zm S p q = c q) (hc : ∀ q : Int, 0 ≤ q → q < 6 → 0 ≤ c q ∧ c q ≤ 100000) (hn : n < 20000) :
    ∃ m', zD d 40 [vr y, vr p] S = some (.inl none, qW S m') ∧ (∀ i : Nat, i < n → m' (y + 1) i = qfwx f c 6 i) ∧ (∀ q : Int, 0 ≤ q → q < 6 → m' p q = c q - qmn (c q) (qsb f q n)) ∧ m' y 5 = qps (fun q => qgm f c q n) 6 ∧ (∀ z, z ≠ y → z ≠ y + 1 → z ≠ p → m' z = zm S z) ∧ ∀ k, k ≠ 5 → m' y k = zm S y k := by
  obtain ⟨e, rfl, he⟩ := qd h
  obtain ⟨n1, n2, n3, n4, n5⟩ := hne
  have xp : x ≠ p := qkne kx kp (by decide)
  have xp2 : x + 2 ≠ p := qkne kc kp (by simp)
  have yp1 : y + 1 ≠ p := qkne kf kp (by simp)
  have lp : ∀ (G i : Nat) (m : Int → Int → Int) (x3 x4 x5 x6 : zV), i + G = n → (∀ k : Nat, k < i → m (y + 1) k = qfwx f c 6 k) → (∀ q : Int, 0 ≤ q → q < 6 → m p q = c q - qmn (c q) (qsb f q i)) → m y 5 = qps (fun q => qgm f c q i) 6 → (∀ z, z ≠ y → z ≠ y + 1 → z ≠ p → m z = zm S z) → (∀ k, k ≠ 5 → m y k = zm S y k) →
      ∃ m', zF_40 e 2 [vr y, vr p, vi (i : Int), x3, x4, x5, x6] [] (qW S m) = some (.inl none, qW S m') ∧ (∀ i : Nat, i < n → m' (y + 1) i = qfwx f c 6 i) ∧ (∀ q : Int, 0 ≤ q → q < 6 → m' p q = c q - qmn (c q) (qsb f q n)) ∧ m' y 5 = qps (fun q => qgm f c q n) 6 ∧ (∀ z, z ≠ y → z ≠ y + 1 → z ≠ p → m' z = zm S z) ∧ ∀ k, k ≠ 5 → m' y k = zm S y k := by
    intro G
    induction G with
    | zero =>
      intro i m x3 x4 x5 x6 hi g1 g2 g3 g4 g5
      obtain rfl : i = n := by omega
      refine ⟨m, ?_, g1, g2, g3, g4, g5⟩
      have v2 : m y 2 = y + 1 := by rw [g5 2 (by decide), y2]
      rw [b40_2]
      simp (config := { maxSteps := 2000000 }) (disch := first | omega | (simp only [ky, v2, kf, qb_in, qkW, qmW, qnW, true_and, and_true, or_self, true_or, or_true, and_self]; done) | (simp only [ky, v2, kf, qb_in, qkW, qmW, qnW, true_and, and_true, or_self, true_or, or_true, and_self]; omega)) only [b40_0, b40_11, b40_19, b40_33, b40_43, b40_47, b40_48, b40_55, b40_62, b40_75, b40_82, b40_87, b40_97, b40_103, b40_118, qcall_l, qcall_r, qretn_l, qJ_s, qJ_n, qV0, qEx, ↓qif0, ↓zchk_pos, ↓reduceIte, qput, qWW, qmW, qkW, qnW, ky, v2, kf, if_neg (show ¬ (i : Int) < i by omega)]
    | succ G ih =>
      intro i m x3 x4 x5 x6 hi g1 g2 g3 g4 g5
      have hlt : (i : Int) < n := Int.ofNat_lt.mpr (by omega)
      have v2 : m y 2 = y + 1 := by rw [g5 2 (by decide), y2]
      have v1 : m y 1 = x := by rw [g5 1 (by decide), y1]
      have mx : m x = zm S x := g4 x n1 n2 xp
      have mc : m (x + 2) = zm S (x + 2) := g4 _ n3 n4 xp2
      have ci := s_cellAtIndex e (qW S m) x N (i : Int) (by omega) kx (by show m x 8 = _; rw [mx, x8]) kc (by omega)
      rw [show zm (qW S m) (x + 2) (i : Int) = f i by show m (x + 2) i = _; rw [mc, hf i (by omega) hlt]] at ci
      have pb := qps_r f c i 6 (fun q q1 q2 => (hc q q1 (by omega)).1)
      obtain ⟨m1, r1, a1, a2, a3, a4⟩ := s_raiseCell e S y p f c i (f i) (qps (fun q => qgm f c q i) 6) rfl ky kp n5 hc (by omega) (by omega) 6 0 m vu (by omega) (fun q q1 q2 => by rw [if_neg (by omega)]; exact g2 q q1 q2) (by rw [g3]; show _ = _ + 0 - 0; omega)
      have r1 : zF_40 e 26 [vr y, vr p, vi (i : Int), vi (f i), vi 0, vi 0, vu] [] (qW S m) = zF_40 e 103 [vr y, vr p, vi (i : Int), vi (f i), vi (qfwx f c 6 i), vi 6, vu] [] (qW S m1) := r1
      have fr := qfwx_r f c 6 i
      rw [show (2 : Int) ^ 6 = 64 from by decide] at fr
      obtain ⟨w, hw⟩ : ∃ w, qfwx f c 6 i = w := ⟨_, rfl⟩
      rw [hw] at r1 fr
      have vb : ((w + 128) % 256 - 128 + 128) % 256 - 128 = w := by omega
      have u2 : m1 y 2 = y + 1 := by rw [a4 2 (by decide), v2]
      have e1 : m1 (y + 1) = m (y + 1) := a3 _ (by omega) yp1
      obtain ⟨m', r, g⟩ := ih (i + 1) (qu m1 (y + 1) (i : Int) w) vu (vi w) vu vu (by omega) (fun k hk => by
        rw [qu_row, e1]
        show (if (k : Int) = (i : Int) then w else m (y + 1) k) = _
        by_cases ck : k = i
        · rw [if_pos (by omega), ck, hw]
        · rw [if_neg (by omega)]
          exact g1 k (by omega)) (fun q q1 q2 => by rw [qu_o _ _ _ _ _ (Ne.symm yp1)]; exact a1 q q1 q2) (by rw [qu_o _ _ _ _ _ (by omega), a2]; omega) (fun z z1 z2 z3 => by rw [qu_o _ _ _ _ _ z2, a3 z z1 z3, g4 z z1 z2 z3]) (fun k hk => by rw [qu_o _ _ _ _ _ (by omega), a4 k hk, g5 k hk])
      refine ⟨m', ?_, g⟩
      have hlt2 : (i : Int) < 2147483647 := by omega
      rw [← r, b40_2]
      simp (config := { maxSteps := 2000000 }) (disch := first | omega | (simp only [ky, kx, v1, v2, kf, qb_in, qkW, qmW, qnW, true_and, and_true, or_self, true_or, or_true, and_self]; done) | (simp only [ky, kx, v1, v2, kf, qb_in, qkW, qmW, qnW, true_and, and_true, or_self, true_or, or_true, and_self]; omega)) only [b40_0, b40_11, b40_19, b40_33, b40_43, b40_47, b40_48, b40_55, b40_62, b40_75, b40_82, b40_87, b40_97, b40_118, qcall_l, qcall_r, qretn_l, qJ_s, qJ_n, qV0, qEx, ↓qif0, ↓zchk_pos, ↓reduceIte, qput, qWW, qmW, qkW, qnW, ky, kx, v1, v2, kf, if_pos hlt, ci, r1]
      rw [b40_103]
      simp (config := { maxSteps := 2000000 }) (disch := first | omega | (simp only [ky, u2, kf, qb_in, qkW, qmW, qnW, true_and, and_true, or_self, true_or, or_true, and_self]; done) | (simp only [ky, u2, kf, qb_in, qkW, qmW, qnW, true_and, and_true, or_self, true_or, or_true, and_self]; omega)) only [b40_0, b40_11, b40_19, b40_33, b40_43, b40_47, b40_48, b40_55, b40_62, b40_75, b40_82, b40_87, b40_97, b40_118, qcall_l, qcall_r, qretn_l, qJ_s, qJ_n, qV0, qEx, ↓qif0, ↓zchk_pos, ↓reduceIte, qput, qWW, qmW, qkW, qnW, ky, u2, kf, vb, z32_s i hlt2]
  obtain ⟨m', r, g⟩ := lp n 0 (zm S) vu vu vu vu (by omega) (fun k hk => by omega) (fun q q1 q2 => by
    rw [hp q q1 q2]
    have := (hc q q1 q2).1
    show _ = c q - qmn (c q) 0
    unfold qmn
    rw [if_neg (by omega)]
    omega) (by rw [y5, qps_0 f c (fun q q1 q2 => (hc q q1 q2).1) 6 (Nat.le_refl _)]) (fun _ _ _ _ => rfl) (fun _ _ => rfl)
  refine ⟨m', ?_, g⟩
  have r : zF_40 e 2 [vr y, vr p, vi 0, vu, vu, vu, vu] [] S = some (.inl none, qW S m') := r
  simp (config := { maxSteps := 2000000 }) (disch := first | omega | (simp only [qb_in, qkW, qmW, qnW, true_and, and_true, or_self, true_or, or_true, and_self]; done) | (simp only [qb_in, qkW, qmW, qnW, true_and, and_true, or_self, true_or, or_true, and_self]; omega)) only [zD_40, b40_0, b40_11, b40_19, b40_33, b40_43, b40_47, b40_48, b40_55, b40_62, b40_75, b40_82, b40_87, b40_97, b40_103, b40_118, qcall_l, qcall_r, qretn_l, qJ_s, qJ_n, qV0, qEx, ↓qif0, ↓zchk_pos, ↓reduceIte, qput, qWW, qmW, qkW, qnW, r]
