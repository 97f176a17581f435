/-! Bits of an int; where a part of divided letters ends. -/
def qB (P : Int) (i : Nat) : Bool := (Int32.ofInt P).toBitVec.getLsbD i
theorem qB_or (P Q : Int) (i : Nat) : qB (zor P Q) i = (qB P i || qB Q i) := by
  unfold qB zor
  rw [Int32.ofInt_toInt, Int32.toBitVec_or, BitVec.getLsbD_or]
theorem qB_and (P Q : Int) (i : Nat) : qB (zand P Q) i = (qB P i && qB Q i) := by
  unfold qB zand
  rw [Int32.ofInt_toInt, Int32.toBitVec_and, BitVec.getLsbD_and]
theorem qB_0 (i : Nat) : qB 0 i = false := BitVec.getLsbD_zero
theorem qB_1' : ∀ k : Nat, k < 32 → ∀ i : Nat, i < 32 → qB (zshl 1 (k : Int)) i = decide (i = k) := by decide +kernel
theorem qB_1 (k i : Nat) (hk : k < 32) (hi : i < 32) : qB (zshl 1 (k : Int)) i = decide (i = k) := qB_1' k hk i hi
theorem qB_c1 : ∀ i : Nat, i < 32 → qB 1 i = decide (i = 0) := by decide +kernel
theorem qB_am : ∀ n : Nat, n < 32 → ((Int32.ofInt (n : Int) &&& 31).toBitVec.smod 32).toNat = n := by decide +kernel
theorem qB_shr (P : Int) (n i : Nat) (hn : n < 32) (hi : i < 32) : qB (zshr P (n : Int)) i = if n + i < 32 then qB P (n + i) else qB P 31 := by
  unfold qB zshr
  rw [Int32.ofInt_toInt, Int32.toBitVec_shiftRight]
  show ((Int32.ofInt P).toBitVec.sshiftRight ((Int32.ofInt (n : Int) &&& 31).toBitVec.smod 32).toNat).getLsbD i = _
  rw [qB_am n hn, BitVec.getLsbD_sshiftRight, BitVec.msb_eq_getLsbD_last]
  simp [hi]
theorem qB_ext {P Q : Int} (hP : -2147483648 ≤ P ∧ P < 2147483648) (hQ : -2147483648 ≤ Q ∧ Q < 2147483648) (h : ∀ i, i < 32 → qB P i = qB Q i) : P = Q := by
  have e : Int32.ofInt P = Int32.ofInt Q := Int32.toBitVec_inj.mp (BitVec.eq_of_getLsbD_eq h)
  have e1 := congrArg Int32.toInt e
  rw [Int32.toInt_ofInt_of_le (by show (-2147483648 : Int) ≤ P; omega) (by show P < 2147483648; omega), Int32.toInt_ofInt_of_le (by show (-2147483648 : Int) ≤ Q; omega) (by show Q < 2147483648; omega)] at e1
  exact e1
theorem q32r (X : Int32) : -2147483648 ≤ X.toInt ∧ X.toInt < 2147483648 := ⟨Int32.le_toInt X, Int32.toInt_lt X⟩
theorem zor_r (P Q : Int) : -2147483648 ≤ zor P Q ∧ zor P Q < 2147483648 := q32r _
theorem zand_r (P Q : Int) : -2147483648 ≤ zand P Q ∧ zand P Q < 2147483648 := q32r _
theorem zshl_r (P Q : Int) : -2147483648 ≤ zshl P Q ∧ zshl P Q < 2147483648 := q32r _
theorem zshr_r (P Q : Int) : -2147483648 ≤ zshr P Q ∧ zshr P Q < 2147483648 := q32r _
/-- one bit, as a number -/
def qbt (P i : Int) : Int := if qB P i.toNat then 1 else 0
theorem qbt_z (P i : Int) (h : 0 ≤ i ∧ i < 32) : zand (zshr P i) 1 = qbt P i := by
  obtain ⟨n, rfl⟩ : ∃ n : Nat, i = (n : Int) := ⟨i.toNat, by omega⟩
  have hq : qbt P n = 0 ∨ qbt P n = 1 := by
    unfold qbt
    split
    · exact Or.inr rfl
    · exact Or.inl rfl
  refine qB_ext (zand_r _ _) (by omega) fun i hi => ?_
  rw [qB_and, qB_shr P n i (by omega) hi, qB_c1 i hi]
  unfold qbt
  rw [show ((n : Int)).toNat = n by omega]
  by_cases h0 : i = 0
  · subst h0
    rw [if_pos (by omega)]
    cases h1 : qB P n
    · simp [h1, qB_0]
    · simp [h1, qB_c1]
  · rw [decide_eq_false h0, Bool.and_false]
    split
    · rw [qB_c1 i hi, decide_eq_false h0]
    · rw [qB_0]
theorem qbt_r (P i : Int) : qbt P i = 0 ∨ qbt P i = 1 := by
  unfold qbt
  split
  · exact Or.inr rfl
  · exact Or.inl rfl
theorem qbt_0 (i : Int) : qbt 0 i = 0 := by
  unfold qbt
  rw [qB_0]
  rfl
theorem qbt_or (P k i : Int) (hk : 0 ≤ k ∧ k < 32) (hi : 0 ≤ i ∧ i < 32) : qbt (zor P (zshl 1 k)) i = if i = k then 1 else qbt P i := by
  obtain ⟨a, rfl⟩ : ∃ n : Nat, k = (n : Int) := ⟨k.toNat, by omega⟩
  obtain ⟨b, rfl⟩ : ∃ n : Nat, i = (n : Int) := ⟨i.toNat, by omega⟩
  unfold qbt
  rw [show ((b : Int)).toNat = b by omega, qB_or, qB_1 a b (by omega) (by omega)]
  by_cases h : b = a
  · rw [if_pos (show (b : Int) = a by omega), decide_eq_true h, Bool.or_true]
    rfl
  · rw [if_neg (show ¬ (b : Int) = a by omega), decide_eq_false h, Bool.or_false]
/-- where a part ends, at a place or behind it -/
def qE (P n : Int) : Nat → Int → Int
  | 0, _ => n
  | f + 1, p => if n ≤ p then n else if qbt P p = 1 then p else qE P n f (p + 1)
theorem qE_s (P n : Int) : ∀ (f : Nat) (p : Int), p ≤ n → n ≤ p + f → p ≤ qE P n f p ∧ qE P n f p ≤ n ∧ (∀ i, p ≤ i → i < qE P n f p → qbt P i = 0) ∧ (qE P n f p < n → qbt P (qE P n f p) = 1) := by
  intro f
  induction f with
  | zero =>
    intro p h1 h2
    simp only [qE]
    exact ⟨by omega, by omega, fun i h3 h4 => by omega, fun h => absurd h (by omega)⟩
  | succ f ih =>
    intro p h1 h2
    simp only [qE]
    by_cases h3 : n ≤ p
    · rw [if_pos h3]
      exact ⟨by omega, by omega, fun i h3 h4 => by omega, fun h => absurd h (by omega)⟩
    · rw [if_neg h3]
      by_cases h4 : qbt P p = 1
      · rw [if_pos h4]
        exact ⟨by omega, by omega, fun i h3 h4 => by omega, fun _ => h4⟩
      · rw [if_neg h4]
        obtain ⟨a1, a2, a3, a4⟩ := ih (p + 1) (by omega) (by omega)
        refine ⟨by omega, a2, fun i h5 h6 => ?_, a4⟩
        by_cases h7 : i = p
        · rw [h7]
          exact (qbt_r P p).resolve_right h4
        · exact a3 i (by omega) h6
def qEn (P n fr : Int) : Int := qE P n 12 (fr + 1)
theorem qEn_s (P n fr : Int) (h : 0 ≤ fr ∧ fr < n ∧ n ≤ 10) : fr < qEn P n fr ∧ qEn P n fr ≤ n ∧ (∀ i, fr < i → i < qEn P n fr → qbt P i = 0) ∧ (qEn P n fr < n → qbt P (qEn P n fr) = 1) := by
  obtain ⟨a1, a2, a3, a4⟩ := qE_s P n 12 (fr + 1) (by omega) (by omega)
  exact ⟨by unfold qEn; omega, a2, fun i h1 h2 => a3 i (by omega) h2, a4⟩
theorem qEn_u (P n fr x : Int) (h : 0 ≤ fr ∧ fr < n ∧ n ≤ 10) (h1 : fr < x ∧ x ≤ n) (h2 : ∀ i, fr < i → i < x → qbt P i = 0) (h3 : x < n → qbt P x = 1) : qEn P n fr = x := by
  obtain ⟨a1, a2, a3, a4⟩ := qEn_s P n fr h
  by_cases c1 : qEn P n fr < x
  · have := a4 (by omega)
    rw [h2 _ a1 c1] at this
    exact absurd this (by decide)
  · by_cases c2 : x < qEn P n fr
    · have := h3 (by omega)
      rw [a3 x h1.1 c2] at this
      exact absurd this (by decide)
    · omega
theorem qEn_0 (n fr : Int) (h : 0 ≤ fr ∧ fr < n ∧ n ≤ 10) : qEn 0 n fr = n := qEn_u 0 n fr n h ⟨by omega, by omega⟩ (fun i _ _ => qbt_0 i) (fun q => absurd q (by omega))
/-- a divided word: its letters, its ends, as bits P -/
def qDv (S : zS) (a P n : Int) : Prop := zk S a = (25, 0) ∧ zm S a 1 = n ∧ zk S (zm S a 2) = (0, 4) ∧ (1 ≤ zm S a 3 ∧ zm S a 3 ≤ 4) ∧ (∀ j, 0 ≤ j → j < zm S a 3 → 0 < zm S (zm S a 2) j ∧ zm S (zm S a 2) j ≤ n ∧ qbt P (zm S (zm S a 2) j) = 1) ∧ (∀ j, 0 ≤ j → j + 1 < zm S a 3 → zm S (zm S a 2) j < zm S (zm S a 2) (j + 1)) ∧ zm S (zm S a 2) (zm S a 3 - 1) = n ∧ (∀ p, 0 ≤ p → p < n → qbt P p = 1 → ∃ j, 0 ≤ j ∧ j < zm S a 3 ∧ zm S (zm S a 2) j = p)
def qDo (S : zS) (a P n : Int) : Prop := (a = 0 ∧ P = 0) ∨ (a ≠ 0 ∧ qDv S a P n)
theorem qinc (E : Int → Int) (q : Int) (h : ∀ j, 0 ≤ j → j + 1 < q → E j < E (j + 1)) : ∀ (f : Nat) (i : Int), 0 ≤ i → i + f < q → E i ≤ E (i + f) := by
  intro f
  induction f with
  | zero =>
    intro i _ _
    rw [show i + ((0 : Nat) : Int) = i by omega]
    exact Int.le_refl _
  | succ f ih =>
    intro i h1 h2
    have a := ih i h1 (by omega)
    have b := h (i + f) (by omega) (by omega)
    rw [show i + ((f + 1 : Nat) : Int) = i + f + 1 by omega]
    omega
theorem s_endBehind (d : Nat) (S : zS) (a P n fr : Int) (h : 1 ≤ d) (ha : qDv S a P n) (hf : 0 ≤ fr ∧ fr < n ∧ n ≤ 10) : zD d 51 [vr a, vi fr] S = some (.inl (some (vi (qEn P n fr))), S) := by
  obtain ⟨e, rfl, -⟩ := qd h
  obtain ⟨k1, p1, k2, b1, g1, g2, g3, g4⟩ := ha
  have hl : ∀ (f : Nat) (j : Int), 0 ≤ j → j + f = zm S a 3 → (∀ i, 0 ≤ i → i < j → zm S (zm S a 2) i ≤ fr) → zF_51 e 2 [vr a, vi fr, vi j] [] S = some (.inl (some (vi (qEn P n fr))), S) := by
    intro f
    induction f with
    | zero =>
      intro j h1 h2 h3
      have := h3 (zm S a 3 - 1) (by omega) (by omega)
      omega
    | succ f ih =>
      intro j h1 h2 h3
      rw [b51_2]
      by_cases c : fr < zm S (zm S a 2) j
      · have hj := g1 j h1 (by omega)
        have e0 : qEn P n fr = zm S (zm S a 2) j := by
          refine qEn_u P n fr _ hf ⟨c, hj.2.1⟩ (fun i h4 h5 => ?_) fun _ => hj.2.2
          rcases qbt_r P i with h6 | h6
          · exact h6
          · obtain ⟨k, h7, h8, h9⟩ := g4 i (by omega) (by omega) h6
            by_cases h10 : k < j
            · have := h3 k h7 h10
              omega
            · have := qinc (fun j => zm S (zm S a 2) j) _ g2 (k - j).toNat j h1 (by omega)
              rw [show j + ((k - j).toNat : Int) = k by omega] at this
              simp only [h9] at this
              omega
        rw [e0]
        simp (config := { maxSteps := 2000000 }) (disch := first | omega | (simp only [k1, k2, qb_in, qkW, qmW, qnW, true_and, and_true, or_self, true_or, or_true, and_self]; done) | (simp only [k1, k2, qb_in, qkW, qmW, qnW, true_and, and_true, or_self, true_or, or_true, and_self]; omega)) only [b51_0, b51_10, b51_20, b51_27, b51_33, qcall_l, qcall_r, qretn_l, qJ_s, qJ_n, qV0, qEx, ↓qif0, ↓zchk_pos, ↓reduceIte, qput, qWW, qmW, qkW, qnW, k1, k2, if_pos (show j < zm S a 3 by omega), if_pos c]
      · simp (config := { maxSteps := 2000000 }) (disch := first | omega | (simp only [k1, k2, qb_in, qkW, qmW, qnW, true_and, and_true, or_self, true_or, or_true, and_self]; done) | (simp only [k1, k2, qb_in, qkW, qmW, qnW, true_and, and_true, or_self, true_or, or_true, and_self]; omega)) only [b51_0, b51_10, b51_20, b51_27, b51_33, qcall_l, qcall_r, qretn_l, qJ_s, qJ_n, qV0, qEx, ↓qif0, ↓zchk_pos, ↓reduceIte, qput, qWW, qmW, qkW, qnW, k1, k2, if_pos (show j < zm S a 3 by omega), if_neg c, q32]
        refine ih (j + 1) (by omega) (by omega) fun i h4 h5 => ?_
        by_cases h6 : i = j
        · rw [h6]; omega
        · exact h3 i h4 (by omega)
  simp (config := { maxSteps := 2000000 }) (disch := first | omega | (simp only [qb_in, qkW, qmW, qnW, true_and, and_true, or_self, true_or, or_true, and_self]; done) | (simp only [qb_in, qkW, qmW, qnW, true_and, and_true, or_self, true_or, or_true, and_self]; omega)) only [zD_51, b51_0, b51_10, b51_20, b51_27, b51_33, qcall_l, qcall_r, qretn_l, qJ_s, qJ_n, qV0, qEx, ↓qif0, ↓zchk_pos, ↓reduceIte, qput, qWW, qmW, qkW, qnW]
  exact hl (zm S a 3).toNat 0 (by omega) (by omega) fun i h1 h2 => by omega
theorem s_endOfPart (d : Nat) (S : zS) (w a P n fr : Int) (h : 2 ≤ d) (k1 : zk S w = (28, 0)) (p1 : zm S w 1 = n) (ha : qDo S a P n) (hf : 0 ≤ fr ∧ fr < n ∧ n ≤ 10) : zD d 18 [vr w, vr a, vi fr] S = some (.inl (some (vi (qEn P n fr))), S) := by
  obtain ⟨e, rfl, h1⟩ := qd h
  rcases ha with ⟨rfl, rfl⟩ | ⟨h2, h3⟩
  · rw [qEn_0 n fr hf]
    simp (config := { maxSteps := 2000000 }) (disch := first | omega | (simp only [k1, qb_in, qkW, qmW, qnW, true_and, and_true, or_self, true_or, or_true, and_self]; done) | (simp only [k1, qb_in, qkW, qmW, qnW, true_and, and_true, or_self, true_or, or_true, and_self]; omega)) only [zD_18, b18_0, b18_4, b18_11, b18_20, b18_23, qcall_l, qcall_r, qretn_l, qJ_s, qJ_n, qV0, qEx, ↓qif0, ↓zchk_pos, ↓reduceIte, qput, qWW, qmW, qkW, qnW, k1, p1]
  · have eb := s_endBehind e S a P n fr (by omega) h3 hf
    obtain ⟨a1, a2, -, -⟩ := qEn_s P n fr hf
    have e1 : (if qEn P n fr < n then qEn P n fr else n) = qEn P n fr := by split <;> omega
    obtain ⟨k3, -⟩ := h3
    simp (config := { maxSteps := 2000000 }) (disch := first | omega | (simp only [k1, k3, qb_in, qkW, qmW, qnW, true_and, and_true, or_self, true_or, or_true, and_self]; done) | (simp only [k1, k3, qb_in, qkW, qmW, qnW, true_and, and_true, or_self, true_or, or_true, and_self]; omega)) only [zD_18, b18_0, b18_4, b18_11, b18_20, b18_23, qcall_l, qcall_r, qretn_l, qJ_s, qJ_n, qV0, qEx, ↓qif0, ↓zchk_pos, ↓reduceIte, qput, qWW, qmW, qkW, qnW, k1, p1, k3, if_neg h2, eb, e1]
