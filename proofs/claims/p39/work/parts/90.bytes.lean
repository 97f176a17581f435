/-! Characters in a number of 64 bits. -/
theorem qbv_r (y : BitVec 64) : 0 ≤ (y &&& 255#64).toInt ∧ (y &&& 255#64).toInt < 256 := by
  have h : (y &&& 255#64).toNat ≤ 255 := by
    rw [BitVec.toNat_and]
    exact Nat.and_le_right
  rw [BitVec.toInt_eq_toNat_cond]
  split <;> omega
theorem qbv_s (x : BitVec 64) (s : Nat) (hs : s ≤ 56) : (x >>> s) &&& 255#64 = (x.sshiftRight s) &&& 255#64 := by
  apply BitVec.eq_of_getLsbD_eq
  intro i hi
  rw [BitVec.getLsbD_and, BitVec.getLsbD_and, BitVec.getLsbD_ushiftRight, BitVec.getLsbD_sshiftRight]
  by_cases c : i < 8
  · rw [if_pos (show s + i < 64 by omega), decide_eq_false (show ¬ 64 ≤ i by omega)]
    simp
  · have e : (255#64).getLsbD i = false := by
      rw [BitVec.getLsbD_ofNat, Nat.testBit_lt_two_pow (Nat.lt_of_lt_of_le (show 255 < 2 ^ 8 by decide) (Nat.pow_le_pow_right (by decide) (by omega)))]
      simp
    rw [e, Bool.and_false, Bool.and_false]
theorem qch_u (a : Int) (i : Int) (hi : 0 ≤ i ∧ i < 8) : zlnd (zlushr a (8 * i)) 255 = (((Int64.ofInt a).toBitVec >>> (8 * i.toNat)) &&& 255#64).toInt := by
  have : i = 0 ∨ i = 1 ∨ i = 2 ∨ i = 3 ∨ i = 4 ∨ i = 5 ∨ i = 6 ∨ i = 7 := by omega
  unfold zlnd zlushr
  rw [Int64.ofInt_toInt]
  rcases this with rfl | rfl | rfl | rfl | rfl | rfl | rfl | rfl
  all_goals rfl
theorem qch_s (a : Int) (i : Int) (hi : 0 ≤ i ∧ i < 8) : zlnd (zlshr a (8 * i)) 255 = (((Int64.ofInt a).toBitVec.sshiftRight (8 * i.toNat)) &&& 255#64).toInt := by
  have : i = 0 ∨ i = 1 ∨ i = 2 ∨ i = 3 ∨ i = 4 ∨ i = 5 ∨ i = 6 ∨ i = 7 := by omega
  unfold zlnd zlshr
  rw [Int64.ofInt_toInt]
  rcases this with rfl | rfl | rfl | rfl | rfl | rfl | rfl | rfl
  all_goals rfl
/-- the character of a place -/
def qch (a i : Int) : Int := zlnd (zlshr a (8 * i)) 255
theorem qch_r (a i : Int) (hi : 0 ≤ i ∧ i < 8) : 0 ≤ qch a i ∧ qch a i < 256 := by
  unfold qch
  rw [qch_s a i hi]
  exact qbv_r _
theorem qch_e (a i : Int) (hi : 0 ≤ i ∧ i < 8) : zlnd (zlushr a (8 * i)) 255 = qch a i := by
  unfold qch
  rw [qch_u a i hi, qch_s a i hi, qbv_s _ _ (by omega)]
