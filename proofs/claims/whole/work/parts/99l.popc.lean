/-! How many bits are set: both count alike. -/
theorem zand_nat (a b : Nat) (ha : a < 2147483648) (hb : b < 2147483648) : zand (a : Int) (b : Int) = ((a &&& b : Nat) : Int) := by
  have e : ∀ x : Nat, x < 2147483648 → (BitVec.ofInt 32 (x : Int)).toNat = x := fun x hx => by
    rw [BitVec.toNat_ofInt]
    omega
  have l : (a &&& b) < 2147483648 := Nat.lt_of_le_of_lt Nat.and_le_left ha
  unfold zand
  show (Int32.ofInt (a : Int) &&& Int32.ofInt (b : Int)).toBitVec.toInt = _
  rw [Int32.toBitVec_and]
  show (BitVec.ofInt 32 (a : Int) &&& BitVec.ofInt 32 (b : Int)).toInt = _
  rw [BitVec.toInt_eq_toNat_of_lt (by rw [BitVec.toNat_and, e a ha, e b hb]; omega), BitVec.toNat_and, e a ha, e b hb]
theorem zushr_am : ∀ n : Nat, n < 32 → ((((Int32.ofInt (n : Int)).toUInt32 &&& Int32.toUInt32 31).toBitVec % 32#32)).toNat = n := by decide +kernel
theorem zushr_nat (a k : Nat) (ha : a < 2147483648) (hk : k < 32) : zushr (a : Int) (k : Int) = ((a / 2 ^ k : Nat) : Int) := by
  have e : (BitVec.ofInt 32 (a : Int)).toNat = a := by
    rw [BitVec.toNat_ofInt]
    omega
  have l : a / 2 ^ k < 2147483648 := Nat.lt_of_le_of_lt (Nat.div_le_self _ _) ha
  unfold zushr
  show ((Int32.ofInt (a : Int)).toUInt32 >>> ((Int32.ofInt (k : Int)).toUInt32 &&& Int32.toUInt32 31)).toBitVec.toInt = _
  rw [UInt32.toBitVec_shiftRight]
  show ((BitVec.ofInt 32 (a : Int)) >>> (((Int32.ofInt (k : Int)).toUInt32 &&& Int32.toUInt32 31).toBitVec % 32#32)).toInt = _
  rw [BitVec.ushiftRight_eq', zushr_am k hk, BitVec.toInt_eq_toNat_of_lt (by rw [BitVec.toNat_ushiftRight, e, Nat.shiftRight_eq_div_pow]; omega), BitVec.toNat_ushiftRight, e, Nat.shiftRight_eq_div_pow]
theorem and256 (x m : Nat) : x &&& m = 256 * ((x / 256) &&& (m / 256)) + ((x % 256) &&& (m % 256)) := by
  have h1 := Nat.and_div_two_pow x m 8
  have h2 := Nat.and_mod_two_pow x m 8
  have h3 := Nat.div_add_mod (x &&& m) 256
  rw [show (256 : Nat) = 2 ^ 8 from rfl] at h3 ⊢
  rw [h1, h2] at h3
  exact h3.symm
theorem and2 (x m : Nat) : x &&& m = 2 * ((x / 2) &&& (m / 2)) + ((x % 2) &&& (m % 2)) := by
  have h1 := Nat.and_div_two_pow x m 1
  have h2 := Nat.and_mod_two_pow x m 1
  have h3 := Nat.div_add_mod (x &&& m) 2
  rw [show (2 : Nat) = 2 ^ 1 from rfl] at h3 ⊢
  rw [h1, h2] at h3
  exact h3.symm
def qpc : Nat → Nat → Nat
  | 0, _ => 0
  | f + 1, v => v % 2 + qpc f (v / 2)
theorem qpc8 (f v : Nat) : qpc (f + 8) v = qpc 8 (v % 256) + qpc f (v / 256) := by
  simp only [qpc]
  rw [show v / 2 / 2 / 2 / 2 / 2 / 2 / 2 / 2 = v / 256 by omega]
  omega
theorem qpc_le : ∀ f v : Nat, qpc f v ≤ f := by
  intro f
  induction f with
  | zero => intro v; exact Nat.le_refl 0
  | succ f ih =>
    intro v
    have := ih (v / 2)
    rw [qpc]
    omega
/-- three bytes -/
theorem and3 (x y z m : Nat) (hx : x < 256) (hy : y < 256) (hz : z < 256) : (x + 256 * y + 65536 * z) &&& (m + 256 * m + 65536 * m + 16777216 * m) = (x &&& (m % 256)) + 256 * (y &&& ((m + 256 * m + 65536 * m + 16777216 * m) / 256 % 256)) + 65536 * (z &&& ((m + 256 * m + 65536 * m + 16777216 * m) / 65536)) := by
  rw [and256, and256 ((x + 256 * y + 65536 * z) / 256), show (x + 256 * y + 65536 * z) % 256 = x by omega, show (x + 256 * y + 65536 * z) / 256 % 256 = y by omega, show (x + 256 * y + 65536 * z) / 256 / 256 = z by omega, show (m + 256 * m + 65536 * m + 16777216 * m) / 256 / 256 = (m + 256 * m + 65536 * m + 16777216 * m) / 65536 by omega, show (m + 256 * m + 65536 * m + 16777216 * m) % 256 = m % 256 by omega]
  omega
theorem pc_a : ∀ b : Nat, b < 256 → ∀ c : Nat, c < 2 → (b / 2 + 128 * c) &&& 85 = (b / 2) &&& 85 := by decide +kernel
theorem pc_a2 : ∀ b : Nat, b < 256 → (b / 2) &&& 85 ≤ b := by decide +kernel
theorem pc_b : ∀ b : Nat, b < 256 → ∀ c : Nat, c < 4 → (b / 4 + 64 * c) &&& 51 = (b / 4) &&& 51 := by decide +kernel
def qpH (b : Nat) : Nat := b - ((b / 2) &&& 85)
def qpK (b : Nat) : Nat := (qpH b &&& 51) + ((qpH b / 4) &&& 51)
theorem pc_c : ∀ b : Nat, b < 256 → qpK b ≤ 68 ∧ qpK b % 16 ≤ 4 ∧ (qpK b % 16 + qpK b / 16) = qpc 8 b ∧ qpc 8 b ≤ 8 := by decide +kernel
theorem pc_d : ∀ b : Nat, b < 256 → b &&& 15 = b % 16 := by decide +kernel
theorem pc_e : ∀ b : Nat, b < 256 → b &&& 51 ≤ b := fun b _ => Nat.and_le_left
/-- the wide way -/
theorem pc_wide (v : Nat) (hv : v < 16777216) : ∃ x1 x2 x3 y : Nat, (v / 2) &&& 1431655765 ≤ v ∧ x1 = v - ((v / 2) &&& 1431655765) ∧ x1 < 16777216 ∧ x2 = (x1 &&& 858993459) + ((x1 / 4) &&& 858993459) ∧ x2 < 16777216 ∧ x3 = (x2 + x2 / 16) &&& 252645135 ∧ x3 < 16777216 ∧ y = (x3 + x3 / 256) + (x3 + x3 / 256) / 65536 ∧ y < 67108864 ∧ y &&& 63 = qpc 24 v := by
  obtain ⟨b0, hb0⟩ : ∃ b, b = v % 256 := ⟨_, rfl⟩
  obtain ⟨b1, hb1⟩ : ∃ b, b = v / 256 % 256 := ⟨_, rfl⟩
  obtain ⟨b2, hb2⟩ : ∃ b, b = v / 65536 := ⟨_, rfl⟩
  have l0 : b0 < 256 := by omega
  have l1 : b1 < 256 := by omega
  have l2 : b2 < 256 := by omega
  have ev : v = b0 + 256 * b1 + 65536 * b2 := by omega
  have e1 : (v / 2) &&& 1431655765 = ((b0 / 2) &&& 85) + 256 * ((b1 / 2) &&& 85) + 65536 * ((b2 / 2) &&& 85) := by
    rw [show v / 2 = (b0 / 2 + 128 * (b1 % 2)) + 256 * (b1 / 2 + 128 * (b2 % 2)) + 65536 * (b2 / 2) by omega]
    have := and3 (b0 / 2 + 128 * (b1 % 2)) (b1 / 2 + 128 * (b2 % 2)) (b2 / 2) 85 (by omega) (by omega) (by omega)
    rw [show 85 + 256 * 85 + 65536 * 85 + 16777216 * 85 = 1431655765 from rfl, show 85 % 256 = 85 from rfl, show 1431655765 / 256 % 256 = 85 from rfl, show 1431655765 / 65536 = 85 + 256 * 85 from rfl] at this
    rw [this, pc_a b0 l0 _ (by omega), pc_a b1 l1 _ (by omega), and256 (b2 / 2), show b2 / 2 / 256 = 0 by omega, Nat.zero_and, show b2 / 2 % 256 = b2 / 2 by omega, show (85 + 256 * 85) % 256 = 85 from rfl]
    omega
  have a0 := pc_a2 b0 l0
  have a1 := pc_a2 b1 l1
  have a2 := pc_a2 b2 l2
  have h0 : qpH b0 = b0 - ((b0 / 2) &&& 85) := rfl
  have h1 : qpH b1 = b1 - ((b1 / 2) &&& 85) := rfl
  have h2 : qpH b2 = b2 - ((b2 / 2) &&& 85) := rfl
  have x1e : v - ((v / 2) &&& 1431655765) = qpH b0 + 256 * qpH b1 + 65536 * qpH b2 := by rw [e1]; omega
  have k0 : qpK b0 = (qpH b0 &&& 51) + ((qpH b0 / 4) &&& 51) := rfl
  have k1 : qpK b1 = (qpH b1 &&& 51) + ((qpH b1 / 4) &&& 51) := rfl
  have k2 : qpK b2 = (qpH b2 &&& 51) + ((qpH b2 / 4) &&& 51) := rfl
  have g0 : qpH b0 < 256 := by omega
  have g1 : qpH b1 < 256 := by omega
  have g2 : qpH b2 < 256 := by omega
  have x1l : v - ((v / 2) &&& 1431655765) < 16777216 := by omega
  generalize v - ((v / 2) &&& 1431655765) = x1 at x1e x1l
  have e2 : x1 &&& 858993459 = (qpH b0 &&& 51) + 256 * (qpH b1 &&& 51) + 65536 * (qpH b2 &&& 51) := by
    have := and3 (qpH b0) (qpH b1) (qpH b2) 51 g0 g1 g2
    rw [show 51 + 256 * 51 + 65536 * 51 + 16777216 * 51 = 858993459 from rfl, show 51 % 256 = 51 from rfl, show 858993459 / 256 % 256 = 51 from rfl, show 858993459 / 65536 = 51 + 256 * 51 from rfl] at this
    rw [x1e, this, and256 (qpH b2), show qpH b2 / 256 = 0 by omega, Nat.zero_and, show qpH b2 % 256 = qpH b2 by omega, show (51 + 256 * 51) % 256 = 51 from rfl]
    omega
  have e3 : (x1 / 4) &&& 858993459 = ((qpH b0 / 4) &&& 51) + 256 * ((qpH b1 / 4) &&& 51) + 65536 * ((qpH b2 / 4) &&& 51) := by
    rw [show x1 / 4 = (qpH b0 / 4 + 64 * (qpH b1 % 4)) + 256 * (qpH b1 / 4 + 64 * (qpH b2 % 4)) + 65536 * (qpH b2 / 4) by omega]
    have := and3 (qpH b0 / 4 + 64 * (qpH b1 % 4)) (qpH b1 / 4 + 64 * (qpH b2 % 4)) (qpH b2 / 4) 51 (by omega) (by omega) (by omega)
    rw [show 51 + 256 * 51 + 65536 * 51 + 16777216 * 51 = 858993459 from rfl, show 51 % 256 = 51 from rfl, show 858993459 / 256 % 256 = 51 from rfl, show 858993459 / 65536 = 51 + 256 * 51 from rfl] at this
    rw [this, pc_b _ g0 _ (by omega), pc_b _ g1 _ (by omega), and256 (qpH b2 / 4), show qpH b2 / 4 / 256 = 0 by omega, Nat.zero_and, show qpH b2 / 4 % 256 = qpH b2 / 4 by omega, show (51 + 256 * 51) % 256 = 51 from rfl]
    omega
  have x2e : (x1 &&& 858993459) + ((x1 / 4) &&& 858993459) = qpK b0 + 256 * qpK b1 + 65536 * qpK b2 := by rw [e2, e3]; omega
  obtain ⟨c0, d0, p0, q0⟩ := pc_c b0 l0
  obtain ⟨c1, d1, p1, q1⟩ := pc_c b1 l1
  obtain ⟨c2, d2, p2, q2⟩ := pc_c b2 l2
  have x2l : (x1 &&& 858993459) + ((x1 / 4) &&& 858993459) < 16777216 := by omega
  refine ⟨x1, (x1 &&& 858993459) + ((x1 / 4) &&& 858993459), ?_⟩
  generalize (x1 &&& 858993459) + ((x1 / 4) &&& 858993459) = x2 at x2e x2l ⊢
  have e4 : (x2 + x2 / 16) &&& 252645135 = qpc 8 b0 + 256 * qpc 8 b1 + 65536 * qpc 8 b2 := by
    rw [show x2 + x2 / 16 = (qpK b0 + qpK b0 / 16 + 16 * (qpK b1 % 16)) + 256 * (qpK b1 + qpK b1 / 16 + 16 * (qpK b2 % 16)) + 65536 * (qpK b2 + qpK b2 / 16) by omega]
    have := and3 (qpK b0 + qpK b0 / 16 + 16 * (qpK b1 % 16)) (qpK b1 + qpK b1 / 16 + 16 * (qpK b2 % 16)) (qpK b2 + qpK b2 / 16) 15 (by omega) (by omega) (by omega)
    rw [show 15 + 256 * 15 + 65536 * 15 + 16777216 * 15 = 252645135 from rfl, show 15 % 256 = 15 from rfl, show 252645135 / 256 % 256 = 15 from rfl, show 252645135 / 65536 = 15 + 256 * 15 from rfl] at this
    rw [this, pc_d _ (by omega), pc_d _ (by omega), and256 (qpK b2 + qpK b2 / 16), show (qpK b2 + qpK b2 / 16) / 256 = 0 by omega, Nat.zero_and, show (qpK b2 + qpK b2 / 16) % 256 = qpK b2 + qpK b2 / 16 by omega, show (15 + 256 * 15) % 256 = 15 from rfl, pc_d _ (by omega)]
    omega
  have e24 : qpc 24 v = qpc 8 b0 + qpc 8 b1 + qpc 8 b2 := by
    rw [show (24 : Nat) = 16 + 8 from rfl, qpc8, show (16 : Nat) = 8 + 8 from rfl, qpc8, ← hb0, ← hb1, show v / 256 / 256 = b2 by omega]
    omega
  refine ⟨(x2 + x2 / 16) &&& 252645135, _, ?_, rfl, x1l, rfl, x2l, rfl, ?_, rfl, ?_, ?_⟩
  · rw [e1]; omega
  · rw [e4]; omega
  · rw [e4]; omega
  · rw [e4, e24, show (63 : Nat) = 2 ^ 6 - 1 from rfl, Nat.and_two_pow_sub_one_eq_mod]
    omega
theorem s_bitCount (d : Nat) (v : Nat) (S : zS) (h : 1 ≤ d) (hv : v < 16777216) : zD d 306 [vi (v : Int)] S = some (.inl (some (vi (qpc 24 v : Nat))), S) := by
  obtain ⟨e, rfl, -⟩ := qd h
  obtain ⟨x1, x2, x3, y, h0, h1, h2, h3, h4, h5, h6, h7, h8, h9⟩ := pc_wide v hv
  have a1 : zushr (v : Int) 1 = ((v / 2 : Nat) : Int) := zushr_nat v 1 (by omega) (by decide)
  have a2 : zand ((v / 2 : Nat) : Int) 1431655765 = (((v / 2) &&& 1431655765 : Nat) : Int) := zand_nat _ 1431655765 (by omega) (by decide)
  have a3 : z32 ((v : Int) - (((v / 2) &&& 1431655765 : Nat) : Int)) = (x1 : Int) := by rw [q32 (by omega)]; omega
  have b1 : zushr (x1 : Int) 2 = ((x1 / 4 : Nat) : Int) := zushr_nat x1 2 (by omega) (by decide)
  have b2 : zand ((x1 / 4 : Nat) : Int) 858993459 = (((x1 / 4) &&& 858993459 : Nat) : Int) := zand_nat _ 858993459 (by omega) (by decide)
  have b3 : zand (x1 : Int) 858993459 = ((x1 &&& 858993459 : Nat) : Int) := zand_nat _ 858993459 (by omega) (by decide)
  have b4 : z32 (((x1 &&& 858993459 : Nat) : Int) + (((x1 / 4) &&& 858993459 : Nat) : Int)) = (x2 : Int) := by rw [q32 (by omega)]; omega
  have c1 : zushr (x2 : Int) 4 = ((x2 / 16 : Nat) : Int) := zushr_nat x2 4 (by omega) (by decide)
  have c2 : z32 ((x2 : Int) + ((x2 / 16 : Nat) : Int)) = ((x2 + x2 / 16 : Nat) : Int) := by rw [q32 (by omega)]; omega
  have c3 : zand ((x2 + x2 / 16 : Nat) : Int) 252645135 = (x3 : Int) := by rw [h5]; exact zand_nat _ 252645135 (by omega) (by decide)
  have d1 : zushr (x3 : Int) 8 = ((x3 / 256 : Nat) : Int) := zushr_nat x3 8 (by omega) (by decide)
  have d2 : z32 ((x3 : Int) + ((x3 / 256 : Nat) : Int)) = ((x3 + x3 / 256 : Nat) : Int) := by rw [q32 (by omega)]; omega
  have d3 : zushr ((x3 + x3 / 256 : Nat) : Int) 16 = (((x3 + x3 / 256) / 65536 : Nat) : Int) := zushr_nat _ 16 (by omega) (by decide)
  have d4 : z32 (((x3 + x3 / 256 : Nat) : Int) + (((x3 + x3 / 256) / 65536 : Nat) : Int)) = (y : Int) := by rw [q32 (by omega)]; omega
  have d5 : zand (y : Int) 63 = ((qpc 24 v : Nat) : Int) := by rw [← h9]; exact zand_nat _ 63 (by omega) (by decide)
  simp (config := { maxSteps := 2000000 }) (disch := first | omega | (simp only [qb_in, qkW, qmW, qnW, true_and, and_true, or_self, true_or, or_true, and_self]; done) | (simp only [qb_in, qkW, qmW, qnW, true_and, and_true, or_self, true_or, or_true, and_self]; omega)) only [zD_306, b306_0, b306_14, b306_26, b306_39, b306_51, qcall_l, qcall_r, qretn_l, qJ_s, qJ_n, qV0, qEx, ↓qif0, ↓zchk_pos, ↓reduceIte, qput, qWW, qmW, qkW, qnW, a1, a2, a3, b1, b2, b3, b4, c1, c2, c3, d1, d2, d3, d4, d5]
theorem qpc_m : ∀ f v : Nat, 0 < v → v < 2 ^ f → (v &&& (v - 1)) < v ∧ qpc f (v &&& (v - 1)) + 1 = qpc f v := by
  intro f
  induction f with
  | zero => intro v h1 h2; omega
  | succ f ih =>
    intro v h1 h2
    rw [Nat.pow_succ] at h2
    by_cases c : v % 2 = 1
    · have e : v &&& (v - 1) = v - 1 := by
        rw [and2, show (v - 1) / 2 = v / 2 by omega, Nat.and_self, show (v - 1) % 2 = 0 by omega, Nat.and_zero]
        omega
      rw [e, qpc, qpc, show (v - 1) / 2 = v / 2 by omega]
      omega
    · obtain ⟨i1, i2⟩ := ih (v / 2) (by omega) (by omega)
      have e : v &&& (v - 1) = 2 * ((v / 2) &&& (v / 2 - 1)) := by
        rw [and2, show (v - 1) / 2 = v / 2 - 1 by omega, show v % 2 = 0 by omega, Nat.zero_and]
        omega
      rw [e, qpc, qpc, show 2 * ((v / 2) &&& (v / 2 - 1)) / 2 = (v / 2) &&& (v / 2 - 1) by omega]
      omega
theorem r_bits (d : Nat) (v : Nat) (S : zS) (h : 1 ≤ d) (hv : v < 16777216) : zD d 261 [vi (v : Int)] S = some (.inl (some (vi (qpc 24 v : Nat))), S) := by
  obtain ⟨e, rfl, -⟩ := qd h
  have lp : ∀ (g w a : Nat) (x : zV), w ≤ g → w < 16777216 → a + qpc 24 w ≤ 100 → zF_261 e 4 [x, vi (a : Int), vi (w : Int)] [] S = some (.inl (some (vi ((a + qpc 24 w : Nat) : Int))), S) := by
    intro g
    induction g with
    | zero =>
      intro w a x h1 h2 h3
      have hw : w = 0 := by omega
      subst hw
      rw [b261_4]
      simp (config := { maxSteps := 2000000 }) (disch := first | omega | (simp only [qb_in, qkW, qmW, qnW, true_and, and_true, or_self, true_or, or_true, and_self]; done) | (simp only [qb_in, qkW, qmW, qnW, true_and, and_true, or_self, true_or, or_true, and_self]; omega)) only [b261_0, b261_8, b261_20, qcall_l, qcall_r, qretn_l, qJ_s, qJ_n, qV0, qEx, ↓qif0, ↓zchk_pos, ↓reduceIte, qput, qWW, qmW, qkW, qnW, if_pos (show ((0 : Nat) : Int) = 0 from rfl)]
      rfl
    | succ g ih =>
      intro w a x h1 h2 h3
      by_cases c : w = 0
      · subst c
        rw [b261_4]
        simp (config := { maxSteps := 2000000 }) (disch := first | omega | (simp only [qb_in, qkW, qmW, qnW, true_and, and_true, or_self, true_or, or_true, and_self]; done) | (simp only [qb_in, qkW, qmW, qnW, true_and, and_true, or_self, true_or, or_true, and_self]; omega)) only [b261_0, b261_8, b261_20, qcall_l, qcall_r, qretn_l, qJ_s, qJ_n, qV0, qEx, ↓qif0, ↓zchk_pos, ↓reduceIte, qput, qWW, qmW, qkW, qnW, if_pos (show ((0 : Nat) : Int) = 0 from rfl)]
        rfl
      · obtain ⟨m1, m2⟩ := qpc_m 24 w (by omega) (by omega)
        have z1 : z32 ((a : Int) + 1) = ((a + 1 : Nat) : Int) := by rw [q32 (by omega)]; omega
        have z2 : z32 ((w : Int) - 1) = ((w - 1 : Nat) : Int) := by rw [q32 (by omega)]; omega
        have z3 : zand (w : Int) ((w - 1 : Nat) : Int) = ((w &&& (w - 1) : Nat) : Int) := zand_nat w (w - 1) (by omega) (by omega)
        have r := ih (w &&& (w - 1)) (a + 1) vu (by omega) (by omega) (by omega)
        rw [show a + 1 + qpc 24 (w &&& (w - 1)) = a + qpc 24 w by omega] at r
        rw [b261_4]
        simp (config := { maxSteps := 2000000 }) (disch := first | omega | (simp only [qb_in, qkW, qmW, qnW, true_and, and_true, or_self, true_or, or_true, and_self]; done) | (simp only [qb_in, qkW, qmW, qnW, true_and, and_true, or_self, true_or, or_true, and_self]; omega)) only [b261_0, b261_8, b261_20, qcall_l, qcall_r, qretn_l, qJ_s, qJ_n, qV0, qEx, ↓qif0, ↓zchk_pos, ↓reduceIte, qput, qWW, qmW, qkW, qnW, if_neg (show ¬ (w : Int) = 0 by omega), z2, z3, z1]
        exact r
  have r := lp v v 0 (vi (v : Int)) (Nat.le_refl v) hv (by have := qpc_le 24 v; omega)
  rw [Nat.zero_add] at r
  simp (config := { maxSteps := 2000000 }) (disch := first | omega | (simp only [qb_in, qkW, qmW, qnW, true_and, and_true, or_self, true_or, or_true, and_self]; done) | (simp only [qb_in, qkW, qmW, qnW, true_and, and_true, or_self, true_or, or_true, and_self]; omega)) only [zD_261, b261_0, b261_8, b261_20, qcall_l, qcall_r, qretn_l, qJ_s, qJ_n, qV0, qEx, ↓qif0, ↓zchk_pos, ↓reduceIte, qput, qWW, qmW, qkW, qnW]
  exact r
