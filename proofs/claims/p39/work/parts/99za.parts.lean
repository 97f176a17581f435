/-! The parts of a word: where they end, how many have room. -/
def qbL : Nat → Nat → Int → List Int
  | 0, _, _ => []
  | f + 1, P, s => (if P % 2 = 1 then [s] else []) ++ qbL f (P / 2) (s + 1)
def qlw : Nat → Nat → Nat
  | 0, _ => 0
  | f + 1, v => if v % 2 = 1 then 0 else 1 + qlw f (v / 2)
def qcj (P : Nat) : Nat → Nat
  | 0 => P
  | j + 1 => qcj P j &&& (qcj P j - 1)
theorem qbL_len : ∀ (f P : Nat) (s : Int), (qbL f P s).length = qpc f P := by
  intro f
  induction f with
  | zero => intro P s; rfl
  | succ f ih =>
    intro P s
    rw [qbL, List.length_append, ih, qpc]
    by_cases c : P % 2 = 1
    · rw [if_pos c, c]; rfl
    · rw [if_neg c, show P % 2 = 0 by omega]; rfl
theorem qbL_h : ∀ (f P : Nat) (s : Int), 0 < qpc f P → (qbL f P s)[0]? = some (s + (qlw f P : Nat)) := by
  intro f
  induction f with
  | zero => intro P s h; exact absurd h (Nat.lt_irrefl 0)
  | succ f ih =>
    intro P s h
    rw [qbL, qlw]
    by_cases c : P % 2 = 1
    · rw [if_pos c, if_pos c]
      show some s = some (s + ((0 : Nat) : Int))
      rw [show s + ((0 : Nat) : Int) = s by omega]
    · rw [if_neg c, if_neg c, List.nil_append]
      rw [qpc] at h
      rw [ih (P / 2) (s + 1) (by omega)]
      congr 1
      omega
theorem qbL_c : ∀ (f P : Nat) (s : Int), 0 < P → qbL f (P &&& (P - 1)) s = (qbL f P s).tail := by
  intro f
  induction f with
  | zero => intro P s h; rfl
  | succ f ih =>
    intro P s h
    by_cases c : P % 2 = 1
    · have e : P &&& (P - 1) = P - 1 := by
        rw [and2, show (P - 1) / 2 = P / 2 by omega, Nat.and_self, show (P - 1) % 2 = 0 by omega, Nat.and_zero]
        omega
      rw [e]
      show (if (P - 1) % 2 = 1 then [s] else []) ++ qbL f ((P - 1) / 2) (s + 1) = ((if P % 2 = 1 then [s] else []) ++ qbL f (P / 2) (s + 1)).tail
      rw [if_pos c, if_neg (show ¬ (P - 1) % 2 = 1 by omega), show (P - 1) / 2 = P / 2 by omega]
      rfl
    · have e : P &&& (P - 1) = 2 * ((P / 2) &&& (P / 2 - 1)) := by
        rw [and2, show (P - 1) / 2 = P / 2 - 1 by omega, show P % 2 = 0 by omega, Nat.zero_and]
        omega
      rw [e]
      show (if 2 * ((P / 2) &&& (P / 2 - 1)) % 2 = 1 then [s] else []) ++ qbL f (2 * ((P / 2) &&& (P / 2 - 1)) / 2) (s + 1) = ((if P % 2 = 1 then [s] else []) ++ qbL f (P / 2) (s + 1)).tail
      rw [if_neg c, if_neg (show ¬ 2 * ((P / 2) &&& (P / 2 - 1)) % 2 = 1 by omega), show 2 * ((P / 2) &&& (P / 2 - 1)) / 2 = (P / 2) &&& (P / 2 - 1) by omega, List.nil_append, List.nil_append]
      exact ih (P / 2) (s + 1) (by omega)
theorem qpc_0 : ∀ f : Nat, qpc f 0 = 0 := by
  intro f
  induction f with
  | zero => rfl
  | succ f ih =>
    show 0 + qpc f 0 = 0
    rw [ih]
theorem qcj_s (P : Nat) : ∀ j : Nat, j < qpc 24 P → qbL 24 (qcj P j) 0 = (qbL 24 P 0).drop j ∧ 0 < qcj P j ∧ qcj P j ≤ P := by
  intro j
  induction j with
  | zero =>
    intro h
    refine ⟨rfl, ?_, Nat.le_refl _⟩
    show 0 < P
    by_cases c : P = 0
    · rw [c, qpc_0] at h; exact absurd h (Nat.lt_irrefl 0)
    · omega
  | succ j ih =>
    intro h
    obtain ⟨i1, i2, i3⟩ := ih (by omega)
    have e : qbL 24 (qcj P (j + 1)) 0 = (qbL 24 P 0).drop (j + 1) := by
      rw [qcj, qbL_c _ _ _ i2, i1, List.tail_drop]
    refine ⟨e, ?_, ?_⟩
    · by_cases c : qcj P (j + 1) = 0
      · have l := congrArg List.length e
        rw [qbL_len, List.length_drop, qbL_len, c, qpc_0] at l
        omega
      · omega
    · show qcj P j &&& (qcj P j - 1) ≤ P
      exact Nat.le_trans Nat.and_le_left i3
theorem qcj_h (P j : Nat) (h : j < qpc 24 P) : (qbL 24 P 0)[j]? = some ((qlw 24 (qcj P j) : Nat) : Int) := by
  obtain ⟨i1, i2, -⟩ := qcj_s P j h
  have l : 0 < qpc 24 (qcj P j) := by
    rw [← qbL_len 24 (qcj P j) 0, i1, List.length_drop, qbL_len]
    omega
  have e := qbL_h 24 (qcj P j) 0 l
  rw [i1, List.getElem?_drop, Int.zero_add] at e
  exact e
theorem qlw_b : ∀ (f v : Nat), 0 < v → v < 2 ^ f → qlw f v < f ∧ v / 2 ^ qlw f v % 2 = 1 ∧ ∀ i, i < qlw f v → v / 2 ^ i % 2 = 0 := by
  intro f
  induction f with
  | zero => intro v h1 h2; omega
  | succ f ih =>
    intro v h1 h2
    rw [Nat.pow_succ] at h2
    rw [qlw]
    by_cases c : v % 2 = 1
    · rw [if_pos c]
      exact ⟨by omega, by rw [Nat.pow_zero, Nat.div_one]; exact c, fun i hi => by omega⟩
    · rw [if_neg c]
      obtain ⟨i1, i2, i3⟩ := ih (v / 2) (by omega) (by omega)
      refine ⟨by omega, ?_, fun i hi => ?_⟩
      · rw [Nat.add_comm, Nat.pow_succ, Nat.mul_comm, ← Nat.div_div_eq_div_mul]
        exact i2
      · cases i with
        | zero => rw [Nat.pow_zero, Nat.div_one]; omega
        | succ i =>
          rw [Nat.pow_succ, Nat.mul_comm, ← Nat.div_div_eq_div_mul]
          exact i3 i (by omega)
theorem qbL_a : ∀ (f P : Nat) (s : Int), qbL (f + 1) P s = qbL f P s ++ if P / 2 ^ f % 2 = 1 then [s + (f : Int)] else [] := by
  intro f
  induction f with
  | zero =>
    intro P s
    show (if P % 2 = 1 then [s] else []) ++ [] = [] ++ if P / 2 ^ 0 % 2 = 1 then [s + ((0 : Nat) : Int)] else []
    rw [List.append_nil, List.nil_append, Nat.pow_zero, Nat.div_one, show s + ((0 : Nat) : Int) = s by omega]
  | succ f ih =>
    intro P s
    have e : P / 2 / 2 ^ f = P / 2 ^ (f + 1) := by rw [Nat.div_div_eq_div_mul, Nat.pow_succ, Nat.mul_comm]
    have e2 : s + 1 + (f : Int) = s + ((f + 1 : Nat) : Int) := by omega
    show (if P % 2 = 1 then [s] else []) ++ qbL (f + 1) (P / 2) (s + 1) = ((if P % 2 = 1 then [s] else []) ++ qbL f (P / 2) (s + 1)) ++ if P / 2 ^ (f + 1) % 2 = 1 then [s + ((f + 1 : Nat) : Int)] else []
    rw [ih (P / 2) (s + 1), e2, e, List.append_assoc]
theorem qbL_z (P f : Nat) (s : Int) (h : P < 2 ^ f) : ∀ g : Nat, qbL (f + g) P s = qbL f P s := by
  intro g
  induction g with
  | zero => rfl
  | succ g ih =>
    have l : P < 2 ^ (f + g) := Nat.lt_of_lt_of_le h (Nat.pow_le_pow_right (by decide) (Nat.le_add_right f g))
    show qbL (f + g + 1) P s = _
    rw [qbL_a, ih, Nat.div_eq_of_lt l, if_neg (by decide), List.append_nil]
theorem qbt_nat (P : Nat) (hP : P < 2147483648) (i : Int) : qbt (P : Int) i = if P / 2 ^ i.toNat % 2 = 1 then 1 else 0 := by
  have e : (BitVec.ofInt 32 (P : Int)).toNat = P := by
    rw [BitVec.toNat_ofInt]
    omega
  unfold qbt qB
  show (if (BitVec.ofInt 32 (P : Int)).toNat.testBit i.toNat = true then (1 : Int) else 0) = _
  rw [e, Nat.testBit_eq_decide_div_mod_eq]
  by_cases c : P / 2 ^ i.toNat % 2 = 1
  · rw [if_pos c, if_pos (decide_eq_true c)]
  · rw [if_neg c, if_neg (fun z => c (of_decide_eq_true z))]
/-- the bits of a divided word of n letters -/
def qPk (p n : Nat) : Prop := p % 2 = 0 ∧ p / 2 ^ n = 1 ∧ n ≤ 10
theorem qPk_l {p n : Nat} (h : qPk p n) : p < 2 ^ (n + 1) ∧ p < 2048 := by
  obtain ⟨h0, h1, h2⟩ := h
  have a : p < 2 * 2 ^ n := Nat.lt_mul_of_div_lt (by omega) (Nat.pow_pos (by decide))
  have b : (2 : Nat) ^ n ≤ 2 ^ 10 := Nat.pow_le_pow_right (by decide) h2
  have c : (2 : Nat) ^ 10 = 1024 := rfl
  exact ⟨by rw [Nat.pow_succ]; omega, by omega⟩
theorem qpl_b {p n : Nat} (h : qPk p n) : ∀ i : Nat, i ≤ n → qpl (p : Int) (n : Int) i = qbL (i + 1) p 0 := by
  have hl := qPk_l h
  obtain ⟨h0, h1, h2⟩ := h
  intro i
  induction i with
  | zero =>
    intro _
    show [] = (if p % 2 = 1 then [0] else []) ++ []
    rw [if_neg (show ¬ p % 2 = 1 by omega)]
    rfl
  | succ i ih =>
    intro hi
    have qn := qbt_nat p (by omega) ((i : Int) + 1)
    rw [show ((i : Int) + 1).toNat = i + 1 by omega] at qn
    rw [qpl, ih (by omega), qbL_a (i + 1) p 0]
    by_cases c : p / 2 ^ (i + 1) % 2 = 1
    · rw [if_pos c] at qn ⊢
      rw [if_pos (Or.inl qn), show (0 : Int) + ((i + 1 : Nat) : Int) = (i : Int) + 1 by omega]
    · rw [if_neg c] at qn ⊢
      rw [if_neg]
      rw [qn]
      intro q
      rcases q with q | q
      · exact absurd q (by decide)
      · have e : i + 1 = n := by omega
        rw [e, h1] at c
        exact c rfl
theorem qpl_k {p n : Nat} (h : qPk p n) : (qpl (p : Int) (n : Int) n).length = qpc 24 p ∧ ∀ j : Nat, j < qpc 24 p → qnth (qpl (p : Int) (n : Int) n) j = ((qlw 24 (qcj p j) : Nat) : Int) := by
  have hl := qPk_l h
  have e : qpl (p : Int) (n : Int) n = qbL 24 p 0 := by
    have z := qbL_z p (n + 1) 0 hl.1 (23 - n)
    rw [show n + 1 + (23 - n) = 24 by have := h.2.2; omega] at z
    rw [z]
    exact qpl_b h n (Nat.le_refl n)
  rw [e]
  refine ⟨qbL_len 24 p 0, fun j hj => ?_⟩
  unfold qnth
  rw [List.getD_eq_getElem?_getD, show ((j : Int)).toNat = j by omega, qcj_h p j hj]
  rfl
theorem qpc_p {p n : Nat} (h : qPk p n) : 0 < qpc 24 p := by
  have hl := qPk_l h
  by_cases c : qpc 24 p = 0
  · have e := (qpl_k h).1
    rw [c] at e
    have e2 := List.eq_nil_of_length_eq_zero e
    cases n with
    | zero =>
      have := h.2.1
      have := h.1
      rw [Nat.pow_zero, Nat.div_one] at *
      omega
    | succ n =>
      rw [qpl, if_pos (Or.inr (by omega))] at e2
      exact absurd (congrArg List.length e2) (by rw [List.length_append]; exact Nat.succ_ne_zero _)
  · omega
/-- cells that end at a place or before it -/
def qce (L : List Int) (p : Int) : Nat → Int
  | 0 => 0
  | k + 1 => qce L p k + if p < qnth L k then 0 else 1
theorem qce_r (L : List Int) (p : Int) : ∀ k : Nat, 0 ≤ qce L p k ∧ qce L p k ≤ k := by
  intro k
  induction k with
  | zero => exact ⟨Int.le_refl _, Int.le_refl _⟩
  | succ k ih =>
    rw [qce]
    split <;> omega
theorem qce_c (C : List (Int × Int)) (p : Int) : ∀ k : Nat, k ≤ C.length → qce (C.map Prod.snd) p k = qcc (C.take k) p := by
  intro k
  induction k with
  | zero => intro _; rfl
  | succ k ih =>
    intro hk
    have hlt : k < C.length := by omega
    have en : qnth (C.map Prod.snd) (k : Int) = (C[k]).2 := by
      unfold qnth
      rw [List.getD_eq_getElem?_getD, show ((k : Int)).toNat = k by omega, List.getElem?_map, List.getElem?_eq_getElem hlt]
      rfl
    rw [qce, ih (by omega), List.take_succ_eq_append_getElem hlt, en]
    by_cases c : p < (C[k]).2
    · rw [if_pos c, qcc_g _ [C[k]] p (fun x hx => by rw [List.mem_singleton.mp hx]; exact c), Int.add_zero]
    · rw [if_neg c]
      unfold qcc
      rw [List.countP_append, List.countP_singleton, if_pos (by simp only [decide_eq_true_eq]; omega)]
      omega
theorem qcc_r (C : List (Int × Int)) (p : Int) : 0 ≤ qcc C p ∧ qcc C p ≤ C.length := by
  have h := qce_c C p C.length (Nat.le_refl _)
  rw [List.take_length] at h
  rw [← h]
  exact qce_r _ _ _
/-- the cells of the first parts, the reference -/
theorem r_cellsOfParts (d : Nat) (S : zS) (p n : Nat) (c sg u : Int) (C : List (Int × Int)) (h : 1 ≤ d) (hK : qK S) (hP : qP (zm S)) (h38 : zm S 37 38 = (p : Int)) (h46 : zm S 37 46 = sg) (hsg : 0 ≤ sg ∧ sg ≤ 100) (hF : qFd (zm S) C u) (hC : C.length ≤ 16) (hp : qPk p n) (hc : 1 ≤ c ∧ c ≤ (qpc 24 p : Nat)) :
    zD d 262 [vr 37, vi c] S = some (.inl (some (vi (sg + qcc C (qnth (qpl (p : Int) (n : Int) n) (c - 1))))), S) := by
  obtain ⟨e, rfl, -⟩ := qd h
  have hl := qPk_l hp
  have pl24 := qpc_le 24 p
  obtain ⟨j, hj⟩ : ∃ j : Nat, c - 1 = (j : Int) := ⟨(c - 1).toNat, by omega⟩
  have en := (qpl_k hp).2 j (by omega)
  obtain ⟨v, hv⟩ : ∃ v, qcj p j = v := ⟨_, rfl⟩
  obtain ⟨-, v1, v2⟩ := qcj_s p j (by omega)
  rw [hv] at v1 v2 en
  obtain ⟨b1, b2, b3⟩ := qlw_b 24 v v1 (by have : (2 : Nat) ^ 24 = 16777216 := rfl; omega)
  obtain ⟨E, hE⟩ : ∃ E, qlw 24 v = E := ⟨_, rfl⟩
  rw [hE] at b1 b2 b3 en
  rw [hj, en]
  obtain ⟨f1, -, -, f4⟩ := hF
  have lp3 : ∀ (g k : Nat) (x1 x2 : zV), k + g = C.length → zF_262 e 49 [vr 37, x1, x2, vi (E : Int), vi (sg + qce (C.map Prod.snd) E k), vi (k : Int)] [] S = some (.inl (some (vi (sg + qcc C E))), S) := by
    intro g
    induction g with
    | zero =>
      intro k x1 x2 hk
      obtain rfl : k = C.length := by omega
      rw [qce_c C E _ (Nat.le_refl _), List.take_length, b262_49]
      simp (config := { maxSteps := 2000000 }) (disch := first | omega | (simp only [K_37 hK, qb_in, qkW, qmW, qnW, true_and, and_true, or_self, true_or, or_true, and_self]; done) | (simp only [K_37 hK, qb_in, qkW, qmW, qnW, true_and, and_true, or_self, true_or, or_true, and_self]; omega)) only [b262_0, b262_12, b262_24, b262_34, b262_40, b262_58, b262_71, b262_75, b262_76, b262_85, qcall_l, qcall_r, qretn_l, qJ_s, qJ_n, qV0, qEx, ↓qif0, ↓zchk_pos, ↓reduceIte, qput, qWW, qmW, qkW, qnW, K_37 hK, f1, if_neg (show ¬ ((C.length : Nat) : Int) < (C.length : Nat) by omega)]
    | succ g ih =>
      intro k x1 x2 hk
      have hlt : (k : Int) < (C.length : Nat) := by omega
      have g1 := qA_n f4 k (by omega) (by rw [List.length_map]; omega)
      have cr := qce_r (C.map Prod.snd) (E : Int) k
      have r1 := ih (k + 1) vu vu (by omega)
      rw [qce] at r1
      rw [b262_49]
      by_cases c1 : (E : Int) < qnth (C.map Prod.snd) k
      · rw [if_pos c1, Int.add_zero] at r1
        simp (config := { maxSteps := 2000000 }) (disch := first | omega | (simp only [K_37 hK, K_66 hK, P_37_41 hP, qb_in, qkW, qmW, qnW, true_and, and_true, or_self, true_or, or_true, and_self]; done) | (simp only [K_37 hK, K_66 hK, P_37_41 hP, qb_in, qkW, qmW, qnW, true_and, and_true, or_self, true_or, or_true, and_self]; omega)) only [b262_0, b262_12, b262_24, b262_34, b262_40, b262_58, b262_71, b262_75, b262_76, b262_85, qcall_l, qcall_r, qretn_l, qJ_s, qJ_n, qV0, qEx, ↓qif0, ↓zchk_pos, ↓reduceIte, qput, qWW, qmW, qkW, qnW, K_37 hK, K_66 hK, P_37_41 hP, f1, g1, if_pos hlt, if_pos c1, Int.add_zero, q32]
        exact r1
      · rw [if_neg c1, ← Int.add_assoc] at r1
        simp (config := { maxSteps := 2000000 }) (disch := first | omega | (simp only [K_37 hK, K_66 hK, P_37_41 hP, qb_in, qkW, qmW, qnW, true_and, and_true, or_self, true_or, or_true, and_self]; done) | (simp only [K_37 hK, K_66 hK, P_37_41 hP, qb_in, qkW, qmW, qnW, true_and, and_true, or_self, true_or, or_true, and_self]; omega)) only [b262_0, b262_12, b262_24, b262_34, b262_40, b262_58, b262_71, b262_75, b262_76, b262_85, qcall_l, qcall_r, qretn_l, qJ_s, qJ_n, qV0, qEx, ↓qif0, ↓zchk_pos, ↓reduceIte, qput, qWW, qmW, qkW, qnW, K_37 hK, K_66 hK, P_37_41 hP, f1, g1, if_pos hlt, if_neg c1, q32]
        exact r1
  have lp2 : ∀ (g i : Nat) (x1 x4 x5 : zV), i + g = E → zF_262 e 26 [vr 37, x1, vi (v : Int), vi (i : Int), x4, x5] [] S = some (.inl (some (vi (sg + qcc C E))), S) := by
    intro g
    induction g with
    | zero =>
      intro i x1 x4 x5 hi
      obtain rfl : i = E := by omega
      have hz : zand (zshr (v : Int) (i : Int)) 1 = 1 := by
        rw [qbt_z _ _ (by omega), qbt_nat v (by omega), show ((i : Int)).toNat = i by omega, if_pos b2]
      have r1 := lp3 C.length 0 vu vu (by omega)
      rw [qce, Int.add_zero] at r1
      have r1 : zF_262 e 49 [vr 37, vu, vu, vi (i : Int), vi sg, vi 0] [] S = _ := r1
      rw [b262_26]
      simp (config := { maxSteps := 2000000 }) (disch := first | omega | (simp only [K_37 hK, qb_in, qkW, qmW, qnW, true_and, and_true, or_self, true_or, or_true, and_self]; done) | (simp only [K_37 hK, qb_in, qkW, qmW, qnW, true_and, and_true, or_self, true_or, or_true, and_self]; omega)) only [b262_0, b262_12, b262_24, b262_34, b262_40, b262_58, b262_71, b262_75, b262_76, b262_85, qcall_l, qcall_r, qretn_l, qJ_s, qJ_n, qV0, qEx, ↓qif0, ↓zchk_pos, ↓reduceIte, qput, qWW, qmW, qkW, qnW, K_37 hK, hz, h46, Int.reduceEq]
      exact r1
    | succ g ih =>
      intro i x1 x4 x5 hi
      have hz : zand (zshr (v : Int) (i : Int)) 1 = 0 := by
        rw [qbt_z _ _ (by omega), qbt_nat v (by omega), show ((i : Int)).toNat = i by omega, if_neg (by rw [b3 i (by omega)]; decide)]
      have r1 := ih (i + 1) vu vu vu (by omega)
      rw [b262_26]
      simp (config := { maxSteps := 2000000 }) (disch := first | omega | (simp only [K_37 hK, qb_in, qkW, qmW, qnW, true_and, and_true, or_self, true_or, or_true, and_self]; done) | (simp only [K_37 hK, qb_in, qkW, qmW, qnW, true_and, and_true, or_self, true_or, or_true, and_self]; omega)) only [b262_0, b262_12, b262_24, b262_34, b262_40, b262_58, b262_71, b262_75, b262_76, b262_85, qcall_l, qcall_r, qretn_l, qJ_s, qJ_n, qV0, qEx, ↓qif0, ↓zchk_pos, ↓reduceIte, qput, qWW, qmW, qkW, qnW, K_37 hK, hz, q32]
      exact r1
  have lp1 : ∀ (g k : Nat) (x4 x5 : zV), k + g = j → zF_262 e 7 [vr 37, vi c, vi (qcj p k : Nat), vi ((k : Int) + 1), x4, x5] [] S = some (.inl (some (vi (sg + qcc C E))), S) := by
    intro g
    induction g with
    | zero =>
      intro k x4 x5 hk
      obtain rfl : k = j := by omega
      have r1 := lp2 E 0 vu vu vu (by omega)
      have r1 : zF_262 e 26 [vr 37, vu, vi (v : Int), vi 0, vu, vu] [] S = _ := r1
      rw [b262_7, hv]
      simp (config := { maxSteps := 2000000 }) (disch := first | omega | (simp only [K_37 hK, qb_in, qkW, qmW, qnW, true_and, and_true, or_self, true_or, or_true, and_self]; done) | (simp only [K_37 hK, qb_in, qkW, qmW, qnW, true_and, and_true, or_self, true_or, or_true, and_self]; omega)) only [b262_0, b262_12, b262_24, b262_34, b262_40, b262_58, b262_71, b262_75, b262_76, b262_85, qcall_l, qcall_r, qretn_l, qJ_s, qJ_n, qV0, qEx, ↓qif0, ↓zchk_pos, ↓reduceIte, qput, qWW, qmW, qkW, qnW, K_37 hK, if_neg (show ¬ (k : Int) + 1 < c by omega)]
      exact r1
    | succ g ih =>
      intro k x4 x5 hk
      obtain ⟨-, w1, w2⟩ := qcj_s p k (by omega)
      have z2 : z32 (((qcj p k : Nat) : Int) - 1) = ((qcj p k - 1 : Nat) : Int) := by rw [q32 (by omega)]; omega
      have z3 : zand ((qcj p k : Nat) : Int) ((qcj p k - 1 : Nat) : Int) = ((qcj p (k + 1) : Nat) : Int) := zand_nat _ _ (by omega) (by omega)
      have z4 : z32 ((k : Int) + 1 + 1) = ((k + 1 : Nat) : Int) + 1 := by rw [q32 (by omega)]; omega
      have r1 := ih (k + 1) vu vu (by omega)
      rw [b262_7]
      simp (config := { maxSteps := 2000000 }) (disch := first | omega | (simp only [K_37 hK, qb_in, qkW, qmW, qnW, true_and, and_true, or_self, true_or, or_true, and_self]; done) | (simp only [K_37 hK, qb_in, qkW, qmW, qnW, true_and, and_true, or_self, true_or, or_true, and_self]; omega)) only [b262_0, b262_12, b262_24, b262_34, b262_40, b262_58, b262_71, b262_75, b262_76, b262_85, qcall_l, qcall_r, qretn_l, qJ_s, qJ_n, qV0, qEx, ↓qif0, ↓zchk_pos, ↓reduceIte, qput, qWW, qmW, qkW, qnW, K_37 hK, if_pos (show (k : Int) + 1 < c by omega), z2, z3, z4]
      exact r1
  have r1 := lp1 j 0 vu vu (by omega)
  have r1 : zF_262 e 7 [vr 37, vi c, vi (p : Int), vi 1, vu, vu] [] S = _ := r1
  simp (config := { maxSteps := 2000000 }) (disch := first | omega | (simp only [K_37 hK, qb_in, qkW, qmW, qnW, true_and, and_true, or_self, true_or, or_true, and_self]; done) | (simp only [K_37 hK, qb_in, qkW, qmW, qnW, true_and, and_true, or_self, true_or, or_true, and_self]; omega)) only [zD_262, b262_0, b262_12, b262_24, b262_34, b262_40, b262_58, b262_71, b262_75, b262_76, b262_85, qcall_l, qcall_r, qretn_l, qJ_s, qJ_n, qV0, qEx, ↓qif0, ↓zchk_pos, ↓reduceIte, qput, qWW, qmW, qkW, qnW, K_37 hK, h38]
  exact r1
/-- the most parts, but the last, that have room with a hyphen -/
def qpm (E : List Int) (room : Int) : Nat → Int
  | 0 => 0
  | k + 1 => if room < qnth E k + 1 then qpm E room k else (k : Int) + 1
theorem qpm_r (E : List Int) (room : Int) : ∀ k : Nat, 0 ≤ qpm E room k ∧ qpm E room k ≤ k := by
  intro k
  induction k with
  | zero => exact ⟨Int.le_refl _, Int.le_refl _⟩
  | succ k ih =>
    rw [qpm]
    split <;> omega
theorem qpm_f (E : List Int) (room : Int) : ∀ k : Nat, qpm E room k ≠ 0 → qnth E (qpm E room k - 1) + 1 ≤ room := by
  intro k
  induction k with
  | zero => intro h; exact absurd rfl h
  | succ k ih =>
    intro h
    rw [qpm] at h ⊢
    by_cases c : room < qnth E k + 1
    · rw [if_pos c] at h ⊢
      exact ih h
    · rw [if_neg c, show (k : Int) + 1 - 1 = k by omega]
      omega
theorem qnth_map (L : List Int) (f : Int → Int) (i : Int) (h : 0 ≤ i ∧ i < L.length) : qnth (L.map f) i = f (qnth L i) := by
  have hlt : i.toNat < L.length := by omega
  unfold qnth
  rw [List.getD_eq_getElem?_getD, List.getD_eq_getElem?_getD, List.getElem?_map, List.getElem?_eq_getElem hlt]
  rfl
theorem r_partsIn (d : Nat) (S : zS) (p n : Nat) (room sg u : Int) (C : List (Int × Int)) (E : List Int) (h : 2 ≤ d) (hK : qK S) (hP : qP (zm S)) (h38 : zm S 37 38 = (p : Int)) (h46 : zm S 37 46 = sg) (hsg : 0 ≤ sg ∧ sg ≤ 100) (hF : qFd (zm S) C u) (hC : C.length ≤ 16) (hp : p = 0 ∨ qPk p n) (hE : E = (qpl (p : Int) (n : Int) n).map fun x => sg + qcc C x) (h0 : p = 0 → E.length = 1) :
    zD d 263 [vr 37, vi room] S = some (.inl (some (vi (qpm E room (E.length - 1)))), S) := by
  obtain ⟨e, rfl, he⟩ := qd h
  have hlt : p < 2048 := by
    rcases hp with q | q
    · omega
    · exact (qPk_l q).2
  have rb := r_bits e p S (by omega) (by omega)
  have pl24 := qpc_le 24 p
  have hl : p ≠ 0 → E.length = qpc 24 p := fun q => by
    rw [hE, List.length_map]
    exact (qpl_k (hp.resolve_left q)).1
  have lp : ∀ (g k : Nat), k + g = E.length - 1 → zF_263 e 4 [vr 37, vi room, vi (qpm E room k), vi ((k : Int) + 1)] [] S = some (.inl (some (vi (qpm E room (E.length - 1)))), S) := by
    intro g
    induction g with
    | zero =>
      intro k hk
      obtain rfl : k = E.length - 1 := by omega
      have hb : ¬ ((E.length - 1 : Nat) : Int) + 1 < (qpc 24 p : Nat) := by
        by_cases c : p = 0
        · rw [c, qpc_0]; omega
        · have := hl c
          omega
      rw [b263_4]
      simp (config := { maxSteps := 2000000 }) (disch := first | omega | (simp only [K_37 hK, qb_in, qkW, qmW, qnW, true_and, and_true, or_self, true_or, or_true, and_self]; done) | (simp only [K_37 hK, qb_in, qkW, qmW, qnW, true_and, and_true, or_self, true_or, or_true, and_self]; omega)) only [b263_0, b263_12, b263_15, b263_20, b263_26, b263_30, b263_31, b263_38, qcall_l, qcall_r, qretn_l, qJ_s, qJ_n, qV0, qEx, ↓qif0, ↓zchk_pos, ↓reduceIte, qput, qWW, qmW, qkW, qnW, K_37 hK, h38, rb, if_neg hb]
    | succ g ih =>
      intro k hk
      have hp0 : p ≠ 0 := fun q => by
        have := h0 q
        omega
      have hpk := hp.resolve_left hp0
      have hb : (k : Int) + 1 < (qpc 24 p : Nat) := by
        have := hl hp0
        omega
      have co := r_cellsOfParts e S p n ((k : Int) + 1) sg u C (by omega) hK hP h38 h46 hsg hF hC hpk (by omega)
      rw [show (k : Int) + 1 - 1 = k by omega] at co
      have en : qnth E k = sg + qcc C (qnth (qpl (p : Int) (n : Int) n) k) := by
        rw [hE, qnth_map _ _ _ (by rw [(qpl_k hpk).1]; omega)]
      rw [← en] at co
      have cr := qcc_r C (qnth (qpl (p : Int) (n : Int) n) k)
      have z1 : z32 (qnth E k + 1) = qnth E k + 1 := q32 (by omega)
      have z2 : z32 ((k : Int) + 1 + 1) = ((k + 1 : Nat) : Int) + 1 := by rw [q32 (by omega)]; omega
      have r1 := ih (k + 1) (by omega)
      rw [qpm] at r1
      rw [b263_4]
      by_cases c : room < qnth E k + 1
      · rw [if_pos c] at r1
        simp (config := { maxSteps := 2000000 }) (disch := first | omega | (simp only [K_37 hK, qb_in, qkW, qmW, qnW, true_and, and_true, or_self, true_or, or_true, and_self]; done) | (simp only [K_37 hK, qb_in, qkW, qmW, qnW, true_and, and_true, or_self, true_or, or_true, and_self]; omega)) only [b263_0, b263_12, b263_15, b263_20, b263_26, b263_30, b263_31, b263_38, qcall_l, qcall_r, qretn_l, qJ_s, qJ_n, qV0, qEx, ↓qif0, ↓zchk_pos, ↓reduceIte, qput, qWW, qmW, qkW, qnW, K_37 hK, h38, rb, if_pos hb, co, z1, z2, if_pos c]
        exact r1
      · rw [if_neg c] at r1
        simp (config := { maxSteps := 2000000 }) (disch := first | omega | (simp only [K_37 hK, qb_in, qkW, qmW, qnW, true_and, and_true, or_self, true_or, or_true, and_self]; done) | (simp only [K_37 hK, qb_in, qkW, qmW, qnW, true_and, and_true, or_self, true_or, or_true, and_self]; omega)) only [b263_0, b263_12, b263_15, b263_20, b263_26, b263_30, b263_31, b263_38, qcall_l, qcall_r, qretn_l, qJ_s, qJ_n, qV0, qEx, ↓qif0, ↓zchk_pos, ↓reduceIte, qput, qWW, qmW, qkW, qnW, K_37 hK, h38, rb, if_pos hb, co, z1, z2, if_neg c]
        exact r1
  have r1 := lp (E.length - 1) 0 (by omega)
  have r1 : zF_263 e 4 [vr 37, vi room, vi 0, vi 1] [] S = _ := r1
  simp (config := { maxSteps := 2000000 }) (disch := first | omega | (simp only [qb_in, qkW, qmW, qnW, true_and, and_true, or_self, true_or, or_true, and_self]; done) | (simp only [qb_in, qkW, qmW, qnW, true_and, and_true, or_self, true_or, or_true, and_self]; omega)) only [zD_263, b263_0, b263_12, b263_15, b263_20, b263_26, b263_30, b263_31, b263_38, qcall_l, qcall_r, qretn_l, qJ_s, qJ_n, qV0, qEx, ↓qif0, ↓zchk_pos, ↓reduceIte, qput, qWW, qmW, qkW, qnW]
  exact r1
/-- the cells of the first parts, the class -/
def qlp (L E : List Int) (j : Int) : Int := if j < 1 then 0 else if j < E.length then qnth E (j - 1) else L.length
theorem s_lengthOfParts (d : Nat) (S : zS) (w b c : Int) (L E : List Int) (mk con j : Int) (h : 1 ≤ d) (hk : qWk S w b c) (hw : qWp (zm S) w b c L mk con E) (hE : E.length ≤ 4) : zD d 113 [vr w, vi j] S = some (.inl (some (vi (qlp L E j))), S) := by
  obtain ⟨e, rfl, -⟩ := qd h
  obtain ⟨k1, k2, k3, -⟩ := hk
  obtain ⟨w0, w4, w1, w2, w3, w5, wL, wE⟩ := hw
  unfold qlp
  by_cases c1 : j < 1
  · rw [if_pos c1]
    simp (config := { maxSteps := 2000000 }) (disch := first | omega | (simp only [qb_in, qkW, qmW, qnW, true_and, and_true, or_self, true_or, or_true, and_self]; done) | (simp only [qb_in, qkW, qmW, qnW, true_and, and_true, or_self, true_or, or_true, and_self]; omega)) only [zD_113, b113_0, b113_5, b113_9, b113_17, b113_26, b113_37, b113_41, qcall_l, qcall_r, qretn_l, qJ_s, qJ_n, qV0, qEx, ↓qif0, ↓zchk_pos, ↓reduceIte, qput, qWW, qmW, qkW, qnW, if_pos c1]
  · rw [if_neg c1]
    by_cases c2 : j < E.length
    · rw [if_pos c2]
      have g1 := qA_n wE (j - 1) (by omega) (by omega)
      simp (config := { maxSteps := 2000000 }) (disch := first | omega | (simp only [k1, k3, w4, qb_in, qkW, qmW, qnW, true_and, and_true, or_self, true_or, or_true, and_self]; done) | (simp only [k1, k3, w4, qb_in, qkW, qmW, qnW, true_and, and_true, or_self, true_or, or_true, and_self]; omega)) only [zD_113, b113_0, b113_5, b113_9, b113_17, b113_26, b113_37, b113_41, qcall_l, qcall_r, qretn_l, qJ_s, qJ_n, qV0, qEx, ↓qif0, ↓zchk_pos, ↓reduceIte, qput, qWW, qmW, qkW, qnW, k1, k3, w4, w5, if_neg c1, if_pos c2, if_neg (show ¬ (4 : Int) < j by omega), q32, g1]
    · rw [if_neg c2]
      simp (config := { maxSteps := 2000000 }) (disch := first | omega | (simp only [k1, qb_in, qkW, qmW, qnW, true_and, and_true, or_self, true_or, or_true, and_self]; done) | (simp only [k1, qb_in, qkW, qmW, qnW, true_and, and_true, or_self, true_or, or_true, and_self]; omega)) only [zD_113, b113_0, b113_5, b113_9, b113_17, b113_26, b113_37, b113_41, qcall_l, qcall_r, qretn_l, qJ_s, qJ_n, qV0, qEx, ↓qif0, ↓zchk_pos, ↓reduceIte, qput, qWW, qmW, qkW, qnW, k1, w1, w5, if_neg c1, if_neg c2]
theorem s_partsWithRoom (d : Nat) (S : zS) (x w b c : Int) (L E : List Int) (mk con W p : Int) (h : 2 ≤ d) (kx : zk S x = (20, 0)) (x3 : zm S x 3 = W) (x17 : zm S x 17 = p) (hW : 0 ≤ W ∧ W ≤ 40) (hp : 0 ≤ p ∧ p ≤ 100) (hk : qWk S w b c) (hw : qWp (zm S) w b c L mk con E) (hE : 1 ≤ E.length ∧ E.length ≤ 4) (hEr : ∀ j, 0 ≤ j → j < (E.length : Int) → 0 ≤ qnth E j ∧ qnth E j ≤ 100) :
    zD d 10 [vr x, vr w] S = some (.inl (some (vi (if W - p - 1 < L.length then qpm E (W - p - 1) (E.length - 1) else E.length))), S) := by
  obtain ⟨e, rfl, he⟩ := qd h
  have hk0 := hk
  have hw0 := hw
  obtain ⟨k1, k2, k3, -⟩ := hk
  obtain ⟨w0, w4, w1, w2, w3, w5, wL, wE⟩ := hw
  have z1 : z32 (W - p) = W - p := q32 (by omega)
  have z2 : z32 (W - p - 1) = W - p - 1 := q32 (by omega)
  by_cases c1 : W - p - 1 < L.length
  · rw [if_pos c1]
    have lp : ∀ (k : Nat), k ≤ E.length - 1 → qpm E (W - p - 1) (E.length - 1) = qpm E (W - p - 1) k → zF_10 e 32 [vu, vr w, vi (W - p - 1), vi (k : Int)] [] S = some (.inl (some (vi (qpm E (W - p - 1) (E.length - 1)))), S) := by
      intro k
      induction k with
      | zero =>
        intro hk1 hq
        rw [b10_32, hq]
        simp (config := { maxSteps := 2000000 }) (disch := first | omega | (simp only [qb_in, qkW, qmW, qnW, true_and, and_true, or_self, true_or, or_true, and_self]; done) | (simp only [qb_in, qkW, qmW, qnW, true_and, and_true, or_self, true_or, or_true, and_self]; omega)) only [b10_0, b10_16, b10_20, b10_25, b10_36, b10_41, b10_47, b10_49, b10_55, qcall_l, qcall_r, qretn_l, qJ_s, qJ_n, qV0, qEx, ↓qif0, ↓zchk_pos, ↓reduceIte, qput, qWW, qmW, qkW, qnW, if_neg (show ¬ (0 : Int) < ((0 : Nat) : Int) by omega)]
        rfl
      | succ k ih =>
        intro hk1 hq
        have hr := hEr k (by omega) (by omega)
        have lo := s_lengthOfParts e S w b c L E mk con ((k + 1 : Nat) : Int) (by omega) hk0 hw0 hE.2
        have el : qlp L E ((k + 1 : Nat) : Int) = qnth E k := by
          unfold qlp
          rw [if_neg (show ¬ ((k + 1 : Nat) : Int) < 1 by omega), if_pos (show ((k + 1 : Nat) : Int) < E.length by omega), show ((k + 1 : Nat) : Int) - 1 = k by omega]
        rw [el] at lo
        have z3 : z32 (qnth E k + 1) = qnth E k + 1 := q32 (by omega)
        have z4 : z32 (((k + 1 : Nat) : Int) + -1) = (k : Int) := by rw [q32 (by omega)]; omega
        rw [b10_32]
        by_cases c : W - p - 1 < qnth E k + 1
        · have hq2 : qpm E (W - p - 1) (k + 1) = qpm E (W - p - 1) k := by rw [qpm, if_pos c]
          have r1 := ih (by omega) (hq.trans hq2)
          simp (config := { maxSteps := 2000000 }) (disch := first | omega | (simp only [k1, qb_in, qkW, qmW, qnW, true_and, and_true, or_self, true_or, or_true, and_self]; done) | (simp only [k1, qb_in, qkW, qmW, qnW, true_and, and_true, or_self, true_or, or_true, and_self]; omega)) only [b10_0, b10_16, b10_20, b10_25, b10_36, b10_41, b10_47, b10_49, b10_55, qcall_l, qcall_r, qretn_l, qJ_s, qJ_n, qV0, qEx, ↓qif0, ↓zchk_pos, ↓reduceIte, qput, qWW, qmW, qkW, qnW, k1, lo, z3, z4, if_pos (show (0 : Int) < ((k + 1 : Nat) : Int) by omega), if_pos c]
          exact r1
        · have hq2 : qpm E (W - p - 1) (k + 1) = ((k + 1 : Nat) : Int) := by rw [qpm, if_neg c]; omega
          rw [hq, hq2]
          simp (config := { maxSteps := 2000000 }) (disch := first | omega | (simp only [k1, qb_in, qkW, qmW, qnW, true_and, and_true, or_self, true_or, or_true, and_self]; done) | (simp only [k1, qb_in, qkW, qmW, qnW, true_and, and_true, or_self, true_or, or_true, and_self]; omega)) only [b10_0, b10_16, b10_20, b10_25, b10_36, b10_41, b10_47, b10_49, b10_55, qcall_l, qcall_r, qretn_l, qJ_s, qJ_n, qV0, qEx, ↓qif0, ↓zchk_pos, ↓reduceIte, qput, qWW, qmW, qkW, qnW, k1, lo, z3, if_pos (show (0 : Int) < ((k + 1 : Nat) : Int) by omega), if_neg c]
    have r1 := lp (E.length - 1) (Nat.le_refl _) rfl
    have z5 : z32 ((E.length : Int) - 1) = ((E.length - 1 : Nat) : Int) := by rw [q32 (by omega)]; omega
    simp (config := { maxSteps := 2000000 }) (disch := first | omega | (simp only [kx, k1, qb_in, qkW, qmW, qnW, true_and, and_true, or_self, true_or, or_true, and_self]; done) | (simp only [kx, k1, qb_in, qkW, qmW, qnW, true_and, and_true, or_self, true_or, or_true, and_self]; omega)) only [zD_10, b10_0, b10_16, b10_20, b10_25, b10_36, b10_41, b10_47, b10_49, b10_55, qcall_l, qcall_r, qretn_l, qJ_s, qJ_n, qV0, qEx, ↓qif0, ↓zchk_pos, ↓reduceIte, qput, qWW, qmW, qkW, qnW, kx, k1, x3, x17, w1, w5, z1, z2, z5, if_pos c1]
    exact r1
  · rw [if_neg c1]
    simp (config := { maxSteps := 2000000 }) (disch := first | omega | (simp only [kx, k1, qb_in, qkW, qmW, qnW, true_and, and_true, or_self, true_or, or_true, and_self]; done) | (simp only [kx, k1, qb_in, qkW, qmW, qnW, true_and, and_true, or_self, true_or, or_true, and_self]; omega)) only [zD_10, b10_0, b10_16, b10_20, b10_25, b10_36, b10_41, b10_47, b10_49, b10_55, qcall_l, qcall_r, qretn_l, qJ_s, qJ_n, qV0, qEx, ↓qif0, ↓zchk_pos, ↓reduceIte, qput, qWW, qmW, qkW, qnW, kx, k1, x3, x17, w1, w5, z1, z2, if_neg c1]
