/-! How many bits are set: both count alike. -/
theorem zand_nat (a b : Nat) (ha : a < 2147483648) (hb : b < 2147483648) : zand (a : Int) (b : Int) = ((a &&& b : Nat) : Int) := by
  have e : ∀ x : Nat, x < 2147483648 → (BitVec.ofInt 32 (x : Int)).toNat = x := fun x hx => by
    rw [BitVec.toNat_ofInt]
    omega
  have l : (a &&& b) < 2147483648 := Nat.lt_of_le_of_lt Nat.and_le_left ha
  unfold zand
  show (Int32.ofInt (a : Int) &&& Int32.ofInt (b : Int)).toBitVec.toInt = _
  rw [Int32.toBitVec_and]
  show (BitVec.ofInt 32 (a : Int) &&& BitVec.ofInt 32 (b : Int)).toInt = _
  rw [BitVec.toInt_eq_toNat_of_lt (by rw [BitVec.toNat_and, e a ha, e b hb]; omega), BitVec.toNat_and, e a ha, e b hb]
theorem zushr_am : ∀ n : Nat, n < 32 → ((((Int32.ofInt (n : Int)).toUInt32 &&& Int32.toUInt32 31).toBitVec % 32#32)).toNat = n := by decide +kernel
theorem zushr_nat (a k : Nat) (ha : a < 2147483648) (hk : k < 32) : zushr (a : Int) (k : Int) = ((a / 2 ^ k : Nat) : Int) := by
  have e : (BitVec.ofInt 32 (a : Int)).toNat = a := by
    rw [BitVec.toNat_ofInt]
    omega
  have l : a / 2 ^ k < 2147483648 := Nat.lt_of_le_of_lt (Nat.div_le_self _ _) ha
  unfold zushr
  show ((Int32.ofInt (a : Int)).toUInt32 >>> ((Int32.ofInt (k : Int)).toUInt32 &&& Int32.toUInt32 31)).toBitVec.toInt = _
  rw [UInt32.toBitVec_shiftRight]
  show ((BitVec.ofInt 32 (a : Int)) >>> (((Int32.ofInt (k : Int)).toUInt32 &&& Int32.toUInt32 31).toBitVec % 32#32)).toInt = _
  rw [BitVec.ushiftRight_eq', zushr_am k hk, BitVec.toInt_eq_toNat_of_lt (by rw [BitVec.toNat_ushiftRight, e, Nat.shiftRight_eq_div_pow]; omega), BitVec.toNat_ushiftRight, e, Nat.shiftRight_eq_div_pow]
theorem and256 (x m : Nat) : x &&& m = 256 * ((x / 256) &&& (m / 256)) + ((x % 256) &&& (m % 256)) := by
  have h1 : (x &&& m) / 2 ^ 8 = x / 2 ^ 8 &&& m / 2 ^ 8 := Nat.and_div_two_pow
  have h2 : (x &&& m) % 2 ^ 8 = x % 2 ^ 8 &&& m % 2 ^ 8 := Nat.and_mod_two_pow
  have h3 := Nat.div_add_mod (x &&& m) (2 ^ 8)
  rw [h1, h2] at h3
  exact h3.symm
theorem and2 (x m : Nat) : x &&& m = 2 * ((x / 2) &&& (m / 2)) + ((x % 2) &&& (m % 2)) := by
  have h1 : (x &&& m) / 2 ^ 1 = x / 2 ^ 1 &&& m / 2 ^ 1 := Nat.and_div_two_pow
  have h2 : (x &&& m) % 2 ^ 1 = x % 2 ^ 1 &&& m % 2 ^ 1 := Nat.and_mod_two_pow
  have h3 := Nat.div_add_mod (x &&& m) (2 ^ 1)
  rw [h1, h2] at h3
  exact h3.symm
def qpc : Nat → Nat → Nat
  | 0, _ => 0
  | f + 1, v => v % 2 + qpc f (v / 2)
theorem qpc8 (f v : Nat) : qpc (f + 8) v = qpc 8 (v % 256) + qpc f (v / 256) := by
  have e : v / 2 / 2 / 2 / 2 / 2 / 2 / 2 / 2 = v / 256 := by omega
  show v % 2 + (v / 2 % 2 + (v / 2 / 2 % 2 + (v / 2 / 2 / 2 % 2 + (v / 2 / 2 / 2 / 2 % 2 + (v / 2 / 2 / 2 / 2 / 2 % 2 + (v / 2 / 2 / 2 / 2 / 2 / 2 % 2 + (v / 2 / 2 / 2 / 2 / 2 / 2 / 2 % 2 + qpc f (v / 2 / 2 / 2 / 2 / 2 / 2 / 2 / 2)))))))) = (v % 256 % 2 + (v % 256 / 2 % 2 + (v % 256 / 2 / 2 % 2 + (v % 256 / 2 / 2 / 2 % 2 + (v % 256 / 2 / 2 / 2 / 2 % 2 + (v % 256 / 2 / 2 / 2 / 2 / 2 % 2 + (v % 256 / 2 / 2 / 2 / 2 / 2 / 2 % 2 + (v % 256 / 2 / 2 / 2 / 2 / 2 / 2 / 2 % 2 + 0)))))))) + qpc f (v / 256)
  rw [e, show v % 256 % 2 = v % 2 by omega, show v % 256 / 2 % 2 = v / 2 % 2 by omega, show v % 256 / 2 / 2 % 2 = v / 2 / 2 % 2 by omega, show v % 256 / 2 / 2 / 2 % 2 = v / 2 / 2 / 2 % 2 by omega, show v % 256 / 2 / 2 / 2 / 2 % 2 = v / 2 / 2 / 2 / 2 % 2 by omega, show v % 256 / 2 / 2 / 2 / 2 / 2 % 2 = v / 2 / 2 / 2 / 2 / 2 % 2 by omega, show v % 256 / 2 / 2 / 2 / 2 / 2 / 2 % 2 = v / 2 / 2 / 2 / 2 / 2 / 2 % 2 by omega, show v % 256 / 2 / 2 / 2 / 2 / 2 / 2 / 2 % 2 = v / 2 / 2 / 2 / 2 / 2 / 2 / 2 % 2 by omega]
  simp only [Nat.add_assoc, Nat.zero_add]
theorem qpc_le : ∀ f v : Nat, qpc f v ≤ f := by
  intro f
  induction f with
  | zero => intro v; exact Nat.le_refl 0
  | succ f ih =>
    intro v
    have := ih (v / 2)
    rw [qpc]
    omega
theorem and_low (z m : Nat) (hz : z < 256) : z &&& m = z &&& (m % 256) := by
  rw [and256 z m, show z / 256 = 0 by omega, Nat.zero_and, show z % 256 = z by omega]
  omega
/-- three bytes -/
theorem and3 (x y z M m0 m1 m2 : Nat) (hx : x < 256) (hy : y < 256) (h0 : M % 256 = m0) (h1 : M / 256 % 256 = m1) (h2 : M / 256 / 256 = m2) : (x + 256 * y + 65536 * z) &&& M = (x &&& m0) + 256 * (y &&& m1) + 65536 * (z &&& m2) := by
  have a : (x + 256 * y + 65536 * z) / 256 = y + 256 * z := by omega
  have b : (x + 256 * y + 65536 * z) % 256 = x := by omega
  have c : (y + 256 * z) / 256 = z := by omega
  have d : (y + 256 * z) % 256 = y := by omega
  rw [and256 (x + 256 * y + 65536 * z) M, a, b, and256 (y + 256 * z) (M / 256), c, d, h0, h1, h2]
  generalize x &&& m0 = u
  generalize y &&& m1 = v
  generalize z &&& m2 = w
  omega
theorem pc_a : ∀ b : Nat, b < 256 → ∀ c : Nat, c < 2 → (b / 2 + 128 * c) &&& 85 = (b / 2) &&& 85 := by decide +kernel
theorem pc_a2 : ∀ b : Nat, b < 256 → (b / 2) &&& 85 ≤ b := by decide +kernel
theorem pc_b : ∀ b : Nat, b < 256 → ∀ c : Nat, c < 4 → (b / 4 + 64 * c) &&& 51 = (b / 4) &&& 51 := by decide +kernel
def qpH (b : Nat) : Nat := b - ((b / 2) &&& 85)
def qpK (b : Nat) : Nat := (qpH b &&& 51) + ((qpH b / 4) &&& 51)
theorem pc_c : ∀ b : Nat, b < 256 → qpK b ≤ 68 ∧ qpK b % 16 ≤ 4 ∧ (qpK b % 16 + qpK b / 16) = qpc 8 b ∧ qpc 8 b ≤ 8 := by decide +kernel
theorem pc_d : ∀ b : Nat, b < 256 → b &&& 15 = b % 16 := by decide +kernel
theorem pc_H (b : Nat) (h : b < 256) : qpH b < 256 ∧ qpH b + ((b / 2) &&& 85) = b := by
  have := pc_a2 b h
  unfold qpH
  omega
/-- the first step -/
theorem pc_1 (b0 b1 b2 : Nat) (l0 : b0 < 256) (l1 : b1 < 256) (l2 : b2 < 256) : ((b0 + 256 * b1 + 65536 * b2) / 2) &&& 1431655765 = ((b0 / 2) &&& 85) + 256 * ((b1 / 2) &&& 85) + 65536 * ((b2 / 2) &&& 85) := by
  rw [show (b0 + 256 * b1 + 65536 * b2) / 2 = (b0 / 2 + 128 * (b1 % 2)) + 256 * (b1 / 2 + 128 * (b2 % 2)) + 65536 * (b2 / 2) by omega, and3 _ _ _ 1431655765 85 85 21845 (by omega) (by omega) rfl rfl rfl, pc_a b0 l0 _ (by omega), pc_a b1 l1 _ (by omega), and_low (b2 / 2) 21845 (by omega)]
theorem pc_2 (b0 b1 b2 : Nat) (l0 : b0 < 256) (l1 : b1 < 256) (l2 : b2 < 256) : (b0 + 256 * b1 + 65536 * b2) &&& 858993459 = (b0 &&& 51) + 256 * (b1 &&& 51) + 65536 * (b2 &&& 51) := by
  rw [and3 _ _ _ 858993459 51 51 13107 l0 l1 rfl rfl rfl, and_low b2 13107 l2]
theorem pc_3 (b0 b1 b2 : Nat) (l0 : b0 < 256) (l1 : b1 < 256) (l2 : b2 < 256) : ((b0 + 256 * b1 + 65536 * b2) / 4) &&& 858993459 = ((b0 / 4) &&& 51) + 256 * ((b1 / 4) &&& 51) + 65536 * ((b2 / 4) &&& 51) := by
  rw [show (b0 + 256 * b1 + 65536 * b2) / 4 = (b0 / 4 + 64 * (b1 % 4)) + 256 * (b1 / 4 + 64 * (b2 % 4)) + 65536 * (b2 / 4) by omega, and3 _ _ _ 858993459 51 51 13107 (by omega) (by omega) rfl rfl rfl, pc_b b0 l0 _ (by omega), pc_b b1 l1 _ (by omega), and_low (b2 / 4) 13107 (by omega)]
theorem pc_4 (k0 k1 k2 : Nat) (l0 : k0 ≤ 68 ∧ k0 % 16 ≤ 4) (l1 : k1 ≤ 68 ∧ k1 % 16 ≤ 4) (l2 : k2 ≤ 68 ∧ k2 % 16 ≤ 4) : (k0 + 256 * k1 + 65536 * k2 + (k0 + 256 * k1 + 65536 * k2) / 16) &&& 252645135 = (k0 % 16 + k0 / 16) + 256 * (k1 % 16 + k1 / 16) + 65536 * (k2 % 16 + k2 / 16) := by
  rw [show k0 + 256 * k1 + 65536 * k2 + (k0 + 256 * k1 + 65536 * k2) / 16 = (k0 + k0 / 16 + 16 * (k1 % 16)) + 256 * (k1 + k1 / 16 + 16 * (k2 % 16)) + 65536 * (k2 + k2 / 16) by omega, and3 _ _ _ 252645135 15 15 3855 (by omega) (by omega) rfl rfl rfl, and_low (k2 + k2 / 16) 3855 (by omega), pc_d _ (by omega), pc_d _ (by omega), show 3855 % 256 = 15 from rfl, pc_d _ (by omega), show (k0 + k0 / 16 + 16 * (k1 % 16)) % 16 = k0 % 16 + k0 / 16 by omega, show (k1 + k1 / 16 + 16 * (k2 % 16)) % 16 = k1 % 16 + k1 / 16 by omega, show (k2 + k2 / 16) % 16 = k2 % 16 + k2 / 16 by omega]
theorem pc_5 (c0 c1 c2 : Nat) (l0 : c0 ≤ 8) (l1 : c1 ≤ 8) (l2 : c2 ≤ 8) (x : Nat) (hx : x = c0 + 256 * c1 + 65536 * c2) : ((x + x / 256) + (x + x / 256) / 65536) &&& 63 = c0 + c1 + c2 ∧ x < 16777216 ∧ (x + x / 256) + (x + x / 256) / 65536 < 67108864 := by
  have e1 : x / 256 = c1 + 256 * c2 := by omega
  have e2 : x + x / 256 = (c0 + c1) + 256 * (c1 + c2) + 65536 * c2 := by omega
  have e3 : ((c0 + c1) + 256 * (c1 + c2) + 65536 * c2) / 65536 = c2 := by omega
  have e4 : ((c0 + c1) + 256 * (c1 + c2) + 65536 * c2 + c2) % 64 = c0 + c1 + c2 := by omega
  have e5 : x < 16777216 := by omega
  rw [show (63 : Nat) = 2 ^ 6 - 1 from rfl, Nat.and_two_pow_sub_one_eq_mod, show (2 : Nat) ^ 6 = 64 from rfl, e2, e3]
  clear e1 e2 e3
  exact ⟨e4, e5, by omega⟩
theorem qpc_24 (v : Nat) : qpc 24 v = qpc 8 (v % 256) + (qpc 8 (v / 256 % 256) + qpc 8 (v / 256 / 256)) := by
  have a : qpc 24 v = qpc 8 (v % 256) + qpc 16 (v / 256) := qpc8 16 v
  have b : qpc 16 (v / 256) = qpc 8 (v / 256 % 256) + qpc 8 (v / 256 / 256) := qpc8 8 (v / 256)
  rw [a, b]
theorem pc_21 (b0 b1 b2 : Nat) (g0 : qpH b0 < 256) (g1 : qpH b1 < 256) (g2 : qpH b2 < 256) : ((qpH b0 + 256 * qpH b1 + 65536 * qpH b2) &&& 858993459) + (((qpH b0 + 256 * qpH b1 + 65536 * qpH b2) / 4) &&& 858993459) = qpK b0 + 256 * qpK b1 + 65536 * qpK b2 := by
  rw [pc_2 _ _ _ g0 g1 g2, pc_3 _ _ _ g0 g1 g2]
  unfold qpK
  generalize qpH b0 &&& 51 = u0
  generalize qpH b1 &&& 51 = u1
  generalize qpH b2 &&& 51 = u2
  generalize qpH b0 / 4 &&& 51 = w0
  generalize qpH b1 / 4 &&& 51 = w1
  generalize qpH b2 / 4 &&& 51 = w2
  clear g0 g1 g2
  omega
theorem pc_11 (v a0 a1 a2 h0 h1 h2 b0 b1 b2 m : Nat) (ev : v = b0 + 256 * b1 + 65536 * b2) (em : m = a0 + 256 * a1 + 65536 * a2) (f0 : h0 + a0 = b0) (f1 : h1 + a1 = b1) (f2 : h2 + a2 = b2) : m ≤ v ∧ v - m = h0 + 256 * h1 + 65536 * h2 := by omega
theorem pc_lt (k0 k1 k2 : Nat) (h0 : k0 < 256) (h1 : k1 < 256) (h2 : k2 < 256) : k0 + 256 * k1 + 65536 * k2 < 16777216 := by omega
/-- the wide way -/
theorem pc_wide (v : Nat) (hv : v < 16777216) : ∃ x1 x2 x3 y : Nat, ((v / 2) &&& 1431655765 ≤ v ∧ v - ((v / 2) &&& 1431655765) = x1 ∧ x1 < 16777216) ∧ ((x1 &&& 858993459) + ((x1 / 4) &&& 858993459) = x2 ∧ x2 < 16777216) ∧ ((x2 + x2 / 16) &&& 252645135 = x3 ∧ x3 < 16777216) ∧ ((x3 + x3 / 256) + (x3 + x3 / 256) / 65536 = y ∧ y < 67108864) ∧ y &&& 63 = qpc 24 v := by
  obtain ⟨b0, hb0⟩ : ∃ b, b = v % 256 := ⟨_, rfl⟩
  obtain ⟨b1, hb1⟩ : ∃ b, b = v / 256 % 256 := ⟨_, rfl⟩
  obtain ⟨b2, hb2⟩ : ∃ b, b = v / 256 / 256 := ⟨_, rfl⟩
  have l0 : b0 < 256 := by omega
  have l1 : b1 < 256 := by omega
  have l2 : b2 < 256 := by omega
  have ev : v = b0 + 256 * b1 + 65536 * b2 := by omega
  have e24 := qpc_24 v
  rw [← hb0, ← hb1, ← hb2] at e24
  clear hb0 hb1 hb2
  have e1 := pc_1 b0 b1 b2 l0 l1 l2
  rw [← ev] at e1
  obtain ⟨g0, f0⟩ := pc_H b0 l0
  obtain ⟨g1, f1⟩ := pc_H b1 l1
  obtain ⟨g2, f2⟩ := pc_H b2 l2
  obtain ⟨hle, x1e⟩ := pc_11 _ _ _ _ _ _ _ _ _ _ _ ev e1 f0 f1 f2
  obtain ⟨k0, d0, p0, q0⟩ := pc_c b0 l0
  obtain ⟨k1, d1, p1, q1⟩ := pc_c b1 l1
  obtain ⟨k2, d2, p2, q2⟩ := pc_c b2 l2
  have x2e := pc_21 b0 b1 b2 g0 g1 g2
  have x3e := pc_4 (qpK b0) (qpK b1) (qpK b2) ⟨k0, d0⟩ ⟨k1, d1⟩ ⟨k2, d2⟩
  rw [p0, p1, p2] at x3e
  obtain ⟨y1, y2, y3⟩ := pc_5 (qpc 8 b0) (qpc 8 b1) (qpc 8 b2) q0 q1 q2 _ rfl
  exact ⟨qpH b0 + 256 * qpH b1 + 65536 * qpH b2, qpK b0 + 256 * qpK b1 + 65536 * qpK b2, qpc 8 b0 + 256 * qpc 8 b1 + 65536 * qpc 8 b2, _, ⟨hle, x1e, pc_lt _ _ _ g0 g1 g2⟩, ⟨x2e, pc_lt _ _ _ (Nat.lt_of_le_of_lt k0 (by decide)) (Nat.lt_of_le_of_lt k1 (by decide)) (Nat.lt_of_le_of_lt k2 (by decide))⟩, ⟨x3e, y2⟩, ⟨rfl, y3⟩, by rw [y1, e24, Nat.add_assoc]⟩
theorem zadd_n (a b : Nat) (h : a + b < 2147483648) : z32 ((a : Int) + (b : Int)) = ((a + b : Nat) : Int) := by
  rw [q32 (by omega)]
  omega
theorem zsub_n (a b : Nat) (h : b ≤ a) (h2 : a < 2147483648) : z32 ((a : Int) - (b : Int)) = ((a - b : Nat) : Int) := by
  rw [q32 (by omega)]
  omega
theorem pc_dl (a k : Nat) (h : a < 16777216) : a / k < 2147483648 ∧ a + a / k < 2147483648 := by
  have := Nat.div_le_self a k
  omega
theorem s_bitCount (d : Nat) (v : Nat) (S : zS) (h : 1 ≤ d) (hv : v < 16777216) : zD d 306 [vi (v : Int)] S = some (.inl (some (vi (qpc 24 v : Nat))), S) := by
  obtain ⟨e, rfl, -⟩ := qd h
  obtain ⟨x1, x2, x3, y, ⟨h0, h1, l1⟩, ⟨h2, l2⟩, ⟨h3, l3⟩, ⟨h4, l4⟩, h5⟩ := pc_wide v hv
  have w1 : x1 < 2147483648 := Nat.lt_trans l1 (by decide)
  have w2 : x2 < 2147483648 := Nat.lt_trans l2 (by decide)
  have w3 : x3 < 2147483648 := Nat.lt_trans l3 (by decide)
  have w4 : y < 2147483648 := Nat.lt_trans l4 (by decide)
  have wv : v < 2147483648 := Nat.lt_trans hv (by decide)
  have a1 : zushr (v : Int) 1 = ((v / 2 : Nat) : Int) := zushr_nat v 1 wv (by decide)
  have a2 : zand ((v / 2 : Nat) : Int) 1431655765 = (((v / 2) &&& 1431655765 : Nat) : Int) := zand_nat (v / 2) 1431655765 (pc_dl v 2 hv).1 (by decide)
  have a3 : z32 ((v : Int) - (((v / 2) &&& 1431655765 : Nat) : Int)) = (x1 : Int) := by rw [zsub_n _ _ h0 wv, h1]
  have b1 : zushr (x1 : Int) 2 = ((x1 / 4 : Nat) : Int) := zushr_nat x1 2 w1 (by decide)
  have b2 : zand ((x1 / 4 : Nat) : Int) 858993459 = (((x1 / 4) &&& 858993459 : Nat) : Int) := zand_nat (x1 / 4) 858993459 (pc_dl x1 4 l1).1 (by decide)
  have b3 : zand (x1 : Int) 858993459 = ((x1 &&& 858993459 : Nat) : Int) := zand_nat x1 858993459 w1 (by decide)
  have b4 : z32 (((x1 &&& 858993459 : Nat) : Int) + (((x1 / 4) &&& 858993459 : Nat) : Int)) = (x2 : Int) := by rw [zadd_n _ _ (by rw [h2]; exact w2), h2]
  have c1 : zushr (x2 : Int) 4 = ((x2 / 16 : Nat) : Int) := zushr_nat x2 4 w2 (by decide)
  have c2 : z32 ((x2 : Int) + ((x2 / 16 : Nat) : Int)) = ((x2 + x2 / 16 : Nat) : Int) := zadd_n _ _ (pc_dl x2 16 l2).2
  have c3 : zand ((x2 + x2 / 16 : Nat) : Int) 252645135 = (x3 : Int) := by
    rw [← h3]
    exact zand_nat (x2 + x2 / 16) 252645135 (pc_dl x2 16 l2).2 (by decide)
  have d1 : zushr (x3 : Int) 8 = ((x3 / 256 : Nat) : Int) := zushr_nat x3 8 w3 (by decide)
  have d2 : z32 ((x3 : Int) + ((x3 / 256 : Nat) : Int)) = ((x3 + x3 / 256 : Nat) : Int) := zadd_n _ _ (pc_dl x3 256 l3).2
  have d3 : zushr ((x3 + x3 / 256 : Nat) : Int) 16 = (((x3 + x3 / 256) / 65536 : Nat) : Int) := zushr_nat (x3 + x3 / 256) 16 (pc_dl x3 256 l3).2 (by decide)
  have d4 : z32 (((x3 + x3 / 256 : Nat) : Int) + (((x3 + x3 / 256) / 65536 : Nat) : Int)) = (y : Int) := by rw [zadd_n _ _ (by rw [h4]; exact w4), h4]
  have d5 : zand (y : Int) 63 = ((qpc 24 v : Nat) : Int) := by
    rw [← h5]
    exact zand_nat y 63 w4 (by decide)
  clear h0 h1 h2 h3 h4 h5 l1 l2 l3 l4 w1 w2 w3 w4 wv
  simp (config := { maxSteps := 2000000 }) (disch := first | omega | (simp only [qb_in, qkW, qmW, qnW, true_and, and_true, or_self, true_or, or_true, and_self]; done) | (simp only [qb_in, qkW, qmW, qnW, true_and, and_true, or_self, true_or, or_true, and_self]; omega)) only [zD_306, b306_0, b306_14, b306_26, b306_39, b306_51, qcall_l, qcall_r, qretn_l, qJ_s, qJ_n, qV0, qEx, ↓qif0, ↓zchk_pos, ↓reduceIte, qput, qWW, qmW, qkW, qnW, a1, a2, a3, b1, b2, b3, b4, c1, c2, c3, d1, d2, d3, d4, d5]
theorem qpc_m : ∀ f v : Nat, 0 < v → v < 2 ^ f → (v &&& (v - 1)) < v ∧ qpc f (v &&& (v - 1)) + 1 = qpc f v := by
  intro f
  induction f with
  | zero => intro v h1 h2; omega
  | succ f ih =>
    intro v h1 h2
    rw [Nat.pow_succ] at h2
    by_cases c : v % 2 = 1
    · have e : v &&& (v - 1) = v - 1 := by
        rw [and2, show (v - 1) / 2 = v / 2 by omega, Nat.and_self, show (v - 1) % 2 = 0 by omega, Nat.and_zero]
        omega
      rw [e, qpc, qpc, show (v - 1) / 2 = v / 2 by omega]
      omega
    · obtain ⟨i1, i2⟩ := ih (v / 2) (by omega) (by omega)
      have e : v &&& (v - 1) = 2 * ((v / 2) &&& (v / 2 - 1)) := by
        rw [and2, show (v - 1) / 2 = v / 2 - 1 by omega, show v % 2 = 0 by omega, Nat.zero_and]
        omega
      rw [e, qpc, qpc, show 2 * ((v / 2) &&& (v / 2 - 1)) / 2 = (v / 2) &&& (v / 2 - 1) by omega]
      omega
theorem r_bits (d : Nat) (v : Nat) (S : zS) (h : 1 ≤ d) (hv : v < 16777216) : zD d 261 [vi (v : Int)] S = some (.inl (some (vi (qpc 24 v : Nat))), S) := by
  obtain ⟨e, rfl, -⟩ := qd h
  have lp : ∀ (g w a : Nat) (x : zV), w ≤ g → w < 16777216 → a + qpc 24 w ≤ 100 → zF_261 e 4 [x, vi (a : Int), vi (w : Int)] [] S = some (.inl (some (vi ((a + qpc 24 w : Nat) : Int))), S) := by
    intro g
    induction g with
    | zero =>
      intro w a x h1 h2 h3
      have hw : w = 0 := by omega
      subst hw
      rw [b261_4]
      simp (config := { maxSteps := 2000000 }) (disch := first | omega | (simp only [qb_in, qkW, qmW, qnW, true_and, and_true, or_self, true_or, or_true, and_self]; done) | (simp only [qb_in, qkW, qmW, qnW, true_and, and_true, or_self, true_or, or_true, and_self]; omega)) only [b261_0, b261_8, b261_20, qcall_l, qcall_r, qretn_l, qJ_s, qJ_n, qV0, qEx, ↓qif0, ↓zchk_pos, ↓reduceIte, qput, qWW, qmW, qkW, qnW, if_pos (show ((0 : Nat) : Int) = 0 from rfl)]
      rfl
    | succ g ih =>
      intro w a x h1 h2 h3
      by_cases c : w = 0
      · subst c
        rw [b261_4]
        simp (config := { maxSteps := 2000000 }) (disch := first | omega | (simp only [qb_in, qkW, qmW, qnW, true_and, and_true, or_self, true_or, or_true, and_self]; done) | (simp only [qb_in, qkW, qmW, qnW, true_and, and_true, or_self, true_or, or_true, and_self]; omega)) only [b261_0, b261_8, b261_20, qcall_l, qcall_r, qretn_l, qJ_s, qJ_n, qV0, qEx, ↓qif0, ↓zchk_pos, ↓reduceIte, qput, qWW, qmW, qkW, qnW, if_pos (show ((0 : Nat) : Int) = 0 from rfl)]
        rfl
      · obtain ⟨m1, m2⟩ := qpc_m 24 w (by omega) (by omega)
        have z1 : z32 ((a : Int) + 1) = ((a + 1 : Nat) : Int) := by rw [q32 (by omega)]; omega
        have z2 : z32 ((w : Int) - 1) = ((w - 1 : Nat) : Int) := by rw [q32 (by omega)]; omega
        have z3 : zand (w : Int) ((w - 1 : Nat) : Int) = ((w &&& (w - 1) : Nat) : Int) := zand_nat w (w - 1) (by omega) (by omega)
        have r := ih (w &&& (w - 1)) (a + 1) vu (by omega) (by omega) (by omega)
        rw [show a + 1 + qpc 24 (w &&& (w - 1)) = a + qpc 24 w by omega] at r
        rw [b261_4]
        simp (config := { maxSteps := 2000000 }) (disch := first | omega | (simp only [qb_in, qkW, qmW, qnW, true_and, and_true, or_self, true_or, or_true, and_self]; done) | (simp only [qb_in, qkW, qmW, qnW, true_and, and_true, or_self, true_or, or_true, and_self]; omega)) only [b261_0, b261_8, b261_20, qcall_l, qcall_r, qretn_l, qJ_s, qJ_n, qV0, qEx, ↓qif0, ↓zchk_pos, ↓reduceIte, qput, qWW, qmW, qkW, qnW, if_neg (show ¬ (w : Int) = 0 by omega), z2, z3, z1]
        exact r
  have r := lp v v 0 (vi (v : Int)) (Nat.le_refl v) hv (by have := qpc_le 24 v; omega)
  rw [Nat.zero_add] at r
  simp (config := { maxSteps := 2000000 }) (disch := first | omega | (simp only [qb_in, qkW, qmW, qnW, true_and, and_true, or_self, true_or, or_true, and_self]; done) | (simp only [qb_in, qkW, qmW, qnW, true_and, and_true, or_self, true_or, or_true, and_self]; omega)) only [zD_261, b261_0, b261_8, b261_20, qcall_l, qcall_r, qretn_l, qJ_s, qJ_n, qV0, qEx, ↓qif0, ↓zchk_pos, ↓reduceIte, qput, qWW, qmW, qkW, qnW]
  exact r
