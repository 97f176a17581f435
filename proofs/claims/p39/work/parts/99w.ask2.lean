/-! Late, ahead, teach. -/
theorem qUn_s {ps : Nat → Int} {S : zS} {R : zR} {F : zS → zR} {Q : zS → Prop} {v : Int} (hC : qRC S) (hr : R = some (.inl (some (vi v)), S)) (hf : ∀ o : Int, ∃ m2, F (qW S (qu (zm S) 102 0 o)) = some (.inl (some (vi v)), qW S m2) ∧ m2 37 0 = 0 ∧ m2 102 0 = o ∧ qFq S m2) (hQ : ∀ m2, qFq S m2 → Q (qW S m2)) : qUn vi qid Q S R F ps := by
  obtain ⟨m2, f, h0, h2, q⟩ := hf (qid v)
  exact Or.inl ⟨v, S, hr, qKs_r S, qW S m2, f, ⟨qFq_1 hC q, fun _ _ => rfl⟩, h0, h2, hQ m2 q⟩
/-- the state in which a question is answered that changes nothing -/
theorem qFq_a (S : zS) (o : Int) : qFq S (qu (qu (zm S) 102 0 o) 37 0 0) := qFq_37x (qFq_o (qFq_r S) o) (qfr_j (A := []) (J := [0]) _ _ _ (by decide)) (by decide) (by decide)
def qla (m : Int → Int → Int) (r : Int) : Nat → Int
  | 0 => m 92 r
  | k + 1 => if m 86 k = r then z32 (qla m r k + qlb m k) else qla m r k
theorem qla_r {m : Int → Int → Int} {r : Int} (h : -2147483648 ≤ m 92 r ∧ m 92 r < 2147483648) : ∀ k : Nat, -2147483648 ≤ qla m r k ∧ qla m r k < 2147483648 := by
  intro k
  induction k with
  | zero => exact h
  | succ k ih =>
    rw [qla]
    split
    · exact z32_in _
    · exact ih
theorem qla_e {m m' : Int → Int → Int} (h1 : m' 92 = m 92) (h2 : m' 86 = m 86) (h3 : m' 87 = m 87) (h4 : m' 37 3 = m 37 3) (r : Int) : ∀ k, qla m' r k = qla m r k := by
  intro k
  induction k with
  | zero => show m' 92 r = m 92 r; rw [h1]
  | succ k ih =>
    rw [qla, qla, ih, h2]
    unfold qlb
    rw [h3, h4]
theorem s_late (d : Nat) (S : zS) (r : Int) (h : 3 ≤ d) (hK : qK S) (hP : qP (zm S)) (hp : qYp S) (hd : qYd S) (hr : qYr S) (h1 : 0 ≤ r ∧ r < zm S 37 76) : zD d 150 [vr 3, vi r] S = some (.inl (some (vi (qla (zm S) r (zm S 37 65).toNat))), S) := by
  obtain ⟨e, rfl, he⟩ := qd h
  obtain ⟨⟨kx, ky, x0, x1, x2⟩, -, -, z3, z4, -⟩ := hr.2.1 r h1.1 h1.2
  have ro := s_readerOf_y e S r (by omega) hK hP hr.1 h1
  obtain ⟨n1, n2⟩ := hp.1
  have d13 := hd.1
  have lp : ∀ (g i : Nat), i + g = (zm S 37 65).toNat → zF_150 e 11 [vr 3, vi r, vi (qla (zm S) r i), vi i] [] S = some (.inl (some (vi (qla (zm S) r (zm S 37 65).toNat))), S) := by
    intro g
    induction g with
    | zero =>
      intro i hi
      obtain rfl : i = (zm S 37 65).toNat := by omega
      rw [b150_11]
      simp (config := { maxSteps := 2000000 }) (disch := first | omega | (simp only [K_3 hK, qb_in, qkW, qmW, qnW, true_and, and_true, or_self, true_or, or_true, and_self]; done) | (simp only [K_3 hK, qb_in, qkW, qmW, qnW, true_and, and_true, or_self, true_or, or_true, and_self]; omega)) only [b150_0, b150_5, b150_19, b150_32, b150_46, b150_48, b150_54, qcall_l, qcall_r, qretn_l, qJ_s, qJ_n, qV0, qEx, ↓qif0, ↓zchk_pos, ↓reduceIte, qput, qWW, qmW, qkW, qnW, K_3 hK, n1, if_neg (show ¬ (((zm S 37 65).toNat : Nat) : Int) < zm S 37 65 by omega)]
    | succ g ih =>
      intro i hi
      have hlt : (i : Int) < zm S 37 65 := by omega
      obtain ⟨⟨kc, -⟩, -, -, -, -, x6, -, -, -⟩ := hp.2.1 i (by omega) hlt
      have r1 := ih (i + 1) (by omega)
      rw [qla] at r1
      rw [b150_11]
      by_cases c : zm S 86 i = r
      · have dl := s_daysLate e S i (by omega) hK hp hd (by omega) hlt (by omega)
        rw [if_pos c] at r1
        simp (config := { maxSteps := 2000000 }) (disch := first | omega | (simp only [K_3 hK, K_13 hK, P_3_8 hP, kc, qb_in, qkW, qmW, qnW, true_and, and_true, or_self, true_or, or_true, and_self]; done) | (simp only [K_3 hK, K_13 hK, P_3_8 hP, kc, qb_in, qkW, qmW, qnW, true_and, and_true, or_self, true_or, or_true, and_self]; omega)) only [b150_0, b150_5, b150_19, b150_32, b150_46, b150_48, b150_54, qcall_l, qcall_r, qretn_l, qJ_s, qJ_n, qV0, qEx, ↓qif0, ↓zchk_pos, ↓reduceIte, qput, qWW, qmW, qkW, qnW, K_3 hK, K_13 hK, P_3_8 hP, n1, d13, kc, x6, if_pos hlt, if_pos c, dl, q32]
        exact r1
      · rw [if_neg c] at r1
        simp (config := { maxSteps := 2000000 }) (disch := first | omega | (simp only [K_3 hK, K_13 hK, P_3_8 hP, kc, qb_in, qkW, qmW, qnW, true_and, and_true, or_self, true_or, or_true, and_self]; done) | (simp only [K_3 hK, K_13 hK, P_3_8 hP, kc, qb_in, qkW, qmW, qnW, true_and, and_true, or_self, true_or, or_true, and_self]; omega)) only [b150_0, b150_5, b150_19, b150_32, b150_46, b150_48, b150_54, qcall_l, qcall_r, qretn_l, qJ_s, qJ_n, qV0, qEx, ↓qif0, ↓zchk_pos, ↓reduceIte, qput, qWW, qmW, qkW, qnW, K_3 hK, K_13 hK, P_3_8 hP, n1, kc, x6, if_pos hlt, if_neg c, q32]
        exact r1
  have r1 := lp (zm S 37 65).toNat 0 (by omega)
  have r1 : zF_150 e 11 [vr 3, vi r, vi (zm S 92 r), vi 0] [] S = some (.inl (some (vi (qla (zm S) r (zm S 37 65).toNat))), S) := r1
  simp (config := { maxSteps := 2000000 }) (disch := first | omega | (simp only [K_3 hK, kx, qb_in, qkW, qmW, qnW, true_and, and_true, or_self, true_or, or_true, and_self]; done) | (simp only [K_3 hK, kx, qb_in, qkW, qmW, qnW, true_and, and_true, or_self, true_or, or_true, and_self]; omega)) only [zD_150, b150_0, b150_5, b150_19, b150_32, b150_46, b150_48, b150_54, qcall_l, qcall_r, qretn_l, qJ_s, qJ_n, qV0, qEx, ↓qif0, ↓zchk_pos, ↓reduceIte, qput, qWW, qmW, qkW, qnW, K_3 hK, ro, kx, z3]
  exact r1
theorem r_late (e : Nat) (S : zS) (r : Int) (he : 3 ≤ e) (hK : qK S) (hP : qP (zm S)) (hp : qYp S) (hd : qYd S) (hr : qYr S) (h1 : 0 ≤ r ∧ r < zm S 37 76) : ∀ (g i : Nat), i + g = (zm S 37 65).toNat → zF_305 e 31 [vr 37, vi r, vi (qla (zm S) r i), vi i] [] S = some (.inl (some (vi (qla (zm S) r (zm S 37 65).toNat))), S) := by
  obtain ⟨-, -, -, z3, z4, -⟩ := hr.2.1 r h1.1 h1.2
  obtain ⟨n1, n2⟩ := hp.1
  intro g
  induction g with
  | zero =>
    intro i hi
    obtain rfl : i = (zm S 37 65).toNat := by omega
    rw [b305_31]
    simp (config := { maxSteps := 2000000 }) (disch := first | omega | (simp only [K_37 hK, qb_in, qkW, qmW, qnW, true_and, and_true, or_self, true_or, or_true, and_self]; done) | (simp only [K_37 hK, qb_in, qkW, qmW, qnW, true_and, and_true, or_self, true_or, or_true, and_self]; omega)) only [b305_0, b305_6, b305_9, b305_13, b305_14, b305_17, b305_20, b305_22, b305_39, b305_50, b305_55, b305_58, b305_59, b305_67, qcall_l, qcall_r, qretn_l, qJ_s, qJ_n, qV0, qEx, ↓qif0, ↓zchk_pos, ↓reduceIte, qput, qWW, qmW, qkW, qnW, K_37 hK, if_neg (show ¬ (((zm S 37 65).toNat : Nat) : Int) < zm S 37 65 by omega)]
  | succ g ih =>
    intro i hi
    have hlt : (i : Int) < zm S 37 65 := by omega
    have b20 : (i : Int) < 20 := by omega
    have b0 : (0 : Int) ≤ (i : Int) := by omega
    have qr := qla_r z4 i
    have r1 := ih (i + 1) (by omega)
    rw [qla] at r1
    rw [b305_31]
    by_cases c : zm S 86 i = r
    · have dl := r_lateBy e S i (by omega) hK hP hp hd (by omega) hlt
      have zi : z32 ((i : Int) + 1) = (i : Int) + 1 := q32 (by omega)
      rw [if_pos c] at r1
      simp (config := { maxSteps := 2000000 }) (disch := first | omega | (simp only [K_37 hK, K_86 hK, P_37_70 hP, b20, b0, qb_in, qkW, qmW, qnW, true_and, and_true, or_self, true_or, or_true, and_self]; done) | (simp only [K_37 hK, K_86 hK, P_37_70 hP, b20, b0, qb_in, qkW, qmW, qnW, true_and, and_true, or_self, true_or, or_true, and_self]; omega)) only [b305_0, b305_6, b305_9, b305_13, b305_14, b305_17, b305_20, b305_22, b305_39, b305_50, b305_55, b305_58, b305_59, b305_67, qcall_l, qcall_r, qretn_l, qJ_s, qJ_n, qV0, qEx, ↓qif0, ↓zchk_pos, ↓reduceIte, qput, qWW, qmW, qkW, qnW, K_37 hK, K_86 hK, P_37_70 hP, if_pos hlt, if_pos c, dl, zi]
      exact r1
    · have zi : z32 ((i : Int) + 1) = (i : Int) + 1 := q32 (by omega)
      have z0 : z32 (qla (zm S) r i + 0) = qla (zm S) r i := by rw [Int.add_zero]; exact q32 qr
      rw [if_neg c] at r1
      simp (config := { maxSteps := 2000000 }) (disch := first | omega | (simp only [K_37 hK, K_86 hK, P_37_70 hP, b20, b0, qb_in, qkW, qmW, qnW, true_and, and_true, or_self, true_or, or_true, and_self]; done) | (simp only [K_37 hK, K_86 hK, P_37_70 hP, b20, b0, qb_in, qkW, qmW, qnW, true_and, and_true, or_self, true_or, or_true, and_self]; omega)) only [b305_0, b305_6, b305_9, b305_13, b305_14, b305_17, b305_20, b305_22, b305_39, b305_50, b305_55, b305_58, b305_59, b305_67, qcall_l, qcall_r, qretn_l, qJ_s, qJ_n, qV0, qEx, ↓qif0, ↓zchk_pos, ↓reduceIte, qput, qWW, qmW, qkW, qnW, K_37 hK, K_86 hK, P_37_70 hP, if_pos hlt, if_neg c, zi, z0]
      exact r1
theorem q_late (d : Nat) (S : zS) (r : Int) (Q : zS → Prop) (h : 4 ≤ d) (hK : qK S) (hP : qP (zm S)) (hC : qRC S) (hn : 103 ≤ (zn S : Int)) (hPo : qPo S) (hQ0 : ∀ v, Q (zbump (qW S (qu (zm S) 37 0 v)))) (hQ : ∀ m2, qFq S m2 → Q (qW S m2)) :
    qUn vi qid Q S (zD d 150 [vr 3, vi r] S) (zD d 305 [vr 37, vi r]) qpsF := by
  have hr := hPo.2.2.2.2.1
  by_cases c : 0 ≤ r ∧ r < zm S 37 76
  · refine qUn_s hC (s_late d S r (by omega) hK hP hPo.2.2.2.1 hPo.2.1 hr c) (fun o => ?_) hQ
    obtain ⟨e, rfl, he⟩ := qd h
    have qf := qFq_a S o
    have hP1 := qFq_P hC hP qf
    obtain ⟨-, b2, -, b4, b5, -⟩ := qPo_f hC hPo qf hn
    obtain ⟨M, hM⟩ : ∃ M, qu (zm S) 102 0 o = M := ⟨_, rfl⟩
    rw [hM] at qf hP1 b2 b4 b5 ⊢
    have m37 : M 37 = zm S 37 := by rw [← hM, qu_o _ _ _ _ _ (by decide)]
    have ir := r_isreader_y e (qW S M) r (by omega) hK (by show 0 ≤ M 37 76 ∧ M 37 76 ≤ 6; rw [m37]; exact hr.1.2) (by show 0 ≤ r ∧ r < M 37 76; rw [m37]; exact c)
    have hd := r_holds e (qW S M) 0 (by omega) hK
    rw [qb_p rfl] at hd
    have hd : zD e 182 [vr 37, vi 0] (qW S M) = some (.inl (some (vi 1)), qW S (qu M 37 0 0)) := hd
    have e76 : qu M 37 0 0 37 76 = zm S 37 76 := by rw [qu_i _ _ _ _ _ (by decide), m37]
    have e65 : qu M 37 0 0 37 65 = zm S 37 65 := by rw [qu_i _ _ _ _ _ (by decide), m37]
    have rl := r_late e (qW S (qu M 37 0 0)) r (by omega) hK hP1 b4 b2 b5 (by show 0 ≤ r ∧ r < qu M 37 0 0 37 76; rw [e76]; exact c) (zm S 37 65).toNat 0 (by show 0 + _ = (qu M 37 0 0 37 65).toNat; rw [e65]; omega)
    have rl : zF_305 e 31 [vr 37, vi r, vi (qu M 37 0 0 92 r), vi 0] [] (qW S (qu M 37 0 0)) = some (.inl (some (vi (qla (qu M 37 0 0) r (qu M 37 0 0 37 65).toNat))), qW S (qu M 37 0 0)) := rl
    have hx : ∀ x, x ≠ 102 → x ≠ 37 → qu M 37 0 0 x = zm S x := fun x x1 x2 => by rw [qu_o _ _ _ _ _ x2, ← hM, qu_o _ _ _ _ _ x1]
    rw [e65, qla_e (hx 92 (by decide) (by decide)) (hx 86 (by decide) (by decide)) (hx 87 (by decide) (by decide)) (by rw [qu_i _ _ _ _ _ (by decide), m37])] at rl
    refine ⟨qu M 37 0 0, ?_, qu_s _ _ _ _, by rw [qu_o _ _ _ _ _ (by decide), ← hM, qu_s], qf⟩
    have b6 : r < 6 := by have := hr.1.2.2; omega
    simp (config := { maxSteps := 2000000 }) (disch := first | omega | (simp only [K_37 hK, K_92 hK, P_37_79 hP1, c.1, b6, qb_in, qkW, qmW, qnW, true_and, and_true, or_self, true_or, or_true, and_self]; done) | (simp only [K_37 hK, K_92 hK, P_37_79 hP1, c.1, b6, qb_in, qkW, qmW, qnW, true_and, and_true, or_self, true_or, or_true, and_self]; omega)) only [zD_305, b305_0, b305_6, b305_9, b305_13, b305_14, b305_17, b305_20, b305_22, b305_39, b305_50, b305_55, b305_58, b305_59, b305_67, qcall_l, qcall_r, qretn_l, qJ_s, qJ_n, qV0, qEx, ↓qif0, ↓zchk_pos, ↓reduceIte, qput, qWW, qmW, qkW, qnW, K_37 hK, K_92 hK, P_37_79 hP1, ir, hd, Int.reduceEq]
    exact rl
  · exact qUn_no (q_late_n d S r (by omega) hK hr.1 c) hQ0
/-- how many wishes go ahead -/
def qah (m : Int → Int → Int) (r b w : Int) : Nat → Int
  | 0 => 0
  | k + 1 => qah m r b w k + if m 94 k = b ∧ (m 90 r < m 90 (m 93 k) ∨ m 90 (m 93 k) = m 90 r ∧ (k : Int) < w) then 1 else 0
theorem qah_r (m : Int → Int → Int) (r b w : Int) : ∀ k : Nat, 0 ≤ qah m r b w k ∧ qah m r b w k ≤ k := by
  intro k
  induction k with
  | zero => exact ⟨Int.le_refl _, Int.le_refl _⟩
  | succ k ih =>
    rw [qah]
    split <;> omega
theorem qah_e {m m' : Int → Int → Int} (h1 : m' 94 = m 94) (h2 : m' 90 = m 90) (h3 : m' 93 = m 93) (r b w : Int) : ∀ k, qah m' r b w k = qah m r b w k := by
  intro k
  induction k with
  | zero => rfl
  | succ k ih => rw [qah, qah, ih, h1, h2, h3]
theorem qwi_e {m m' : Int → Int → Int} (h1 : m' 94 = m 94) (h3 : m' 93 = m 93) (r b : Int) : ∀ k, qwi m' r b k = qwi m r b k := by
  intro k
  induction k with
  | zero => rfl
  | succ k ih => rw [qwi, qwi, ih, h1, h3]
theorem s_ahead (d : Nat) (S : zS) (r b : Int) (h : 3 ≤ d) (hK : qK S) (hP : qP (zm S)) (hNb : qNb S) (hw : qYw S) (hr : qYr S) (h1 : 0 ≤ r ∧ r < zm S 37 76) (h2 : 0 ≤ b ∧ b < zm S 37 16) : zD d 149 [vr 3, vi r, vi b] S = some (.inl (some (vi (if qwi (zm S) r b (zm S 37 80).toNat = -1 then -1 else qah (zm S) r b (qwi (zm S) r b (zm S 37 80).toNat) (zm S 37 80).toNat))), S) := by
  obtain ⟨e, rfl, he⟩ := qd h
  obtain ⟨⟨kx, ky, x0, x1, x2⟩, z0, z1, -⟩ := hr.2.1 r h1.1 h1.2
  have ro := s_readerOf_y e S r (by omega) hK hP hr.1 h1
  have bo := s_bookOf_y e S b (by omega) hK hP hNb h2
  have fi := s_find e S r b (by omega) hK hP hw
  obtain ⟨⟨n1, n2⟩, w1, w2⟩ := hw
  have fr := qwi_r (zm S) r b (zm S 37 80).toNat
  generalize qwi (zm S) r b (zm S 37 80).toNat = w at fi fr
  by_cases c : w = -1
  · rw [if_pos c]
    simp (config := { maxSteps := 2000000 }) (disch := first | omega | (simp only [K_3 hK, K_15 hK, P_3_12 hP, kx, qb_in, qkW, qmW, qnW, true_and, and_true, or_self, true_or, or_true, and_self]; done) | (simp only [K_3 hK, K_15 hK, P_3_12 hP, kx, qb_in, qkW, qmW, qnW, true_and, and_true, or_self, true_or, or_true, and_self]; omega)) only [zD_149, b149_0, b149_5, b149_14, b149_24, b149_32, b149_34, b149_52, b149_66, b149_85, b149_91, b149_97, b149_104, b149_107, b149_113, qcall_l, qcall_r, qretn_l, qJ_s, qJ_n, qV0, qEx, ↓qif0, ↓zchk_pos, ↓reduceIte, qput, qWW, qmW, qkW, qnW, K_3 hK, K_15 hK, P_3_12 hP, ro, bo, fi, kx, z0, if_pos c]
  · have lp : ∀ (g i : Nat) (x7 : zV), i + g = (zm S 37 80).toNat → zF_149 e 40 [vr 3, vu, vi b, vi (zm S 90 r), vi w, vi (qah (zm S) r b w i), vi i, x7] [] S = some (.inl (some (vi (qah (zm S) r b w (zm S 37 80).toNat))), S) := by
      intro g
      induction g with
      | zero =>
        intro i x7 hi
        obtain rfl : i = (zm S 37 80).toNat := by omega
        rw [b149_40]
        simp (config := { maxSteps := 2000000 }) (disch := first | omega | (simp only [K_3 hK, K_15 hK, P_3_12 hP, qb_in, qkW, qmW, qnW, true_and, and_true, or_self, true_or, or_true, and_self]; done) | (simp only [K_3 hK, K_15 hK, P_3_12 hP, qb_in, qkW, qmW, qnW, true_and, and_true, or_self, true_or, or_true, and_self]; omega)) only [b149_0, b149_5, b149_14, b149_24, b149_32, b149_34, b149_52, b149_66, b149_85, b149_91, b149_97, b149_104, b149_107, b149_113, qcall_l, qcall_r, qretn_l, qJ_s, qJ_n, qV0, qEx, ↓qif0, ↓zchk_pos, ↓reduceIte, qput, qWW, qmW, qkW, qnW, K_3 hK, K_15 hK, P_3_12 hP, n1, if_neg (show ¬ (((zm S 37 80).toNat : Nat) : Int) < zm S 37 80 by omega)]
      | succ g ih =>
        intro i x7 hi
        have hlt : (i : Int) < zm S 37 80 := by omega
        obtain ⟨e1, e2, e3, e4⟩ := w1 i (by omega) hlt
        have ri := s_readerOf_y e S (zm S 93 i) (by omega) hK hP hr.1 e3
        obtain ⟨⟨ki, -⟩, zi, -⟩ := hr.2.1 (zm S 93 i) e3.1 e3.2
        have qr := qah_r (zm S) r b w i
        have r1 := ih (i + 1) vu (by omega)
        rw [qah] at r1
        rw [b149_40]
        by_cases c1 : zm S 94 i = b
        · by_cases c2 : zm S 90 r < zm S 90 (zm S 93 i)
          · rw [if_pos ⟨c1, Or.inl c2⟩] at r1
            simp (config := { maxSteps := 2000000 }) (disch := first | omega | (simp only [K_3 hK, K_15 hK, K_16 hK, K_17 hK, P_3_12 hP, P_15_0 hP, P_15_1 hP, ki, qb_in, qkW, qmW, qnW, true_and, and_true, or_self, true_or, or_true, and_self]; done) | (simp only [K_3 hK, K_15 hK, K_16 hK, K_17 hK, P_3_12 hP, P_15_0 hP, P_15_1 hP, ki, qb_in, qkW, qmW, qnW, true_and, and_true, or_self, true_or, or_true, and_self]; omega)) only [b149_0, b149_5, b149_14, b149_24, b149_32, b149_34, b149_52, b149_66, b149_85, b149_91, b149_97, b149_104, b149_107, b149_113, qcall_l, qcall_r, qretn_l, qJ_s, qJ_n, qV0, qEx, ↓qif0, ↓zchk_pos, ↓reduceIte, qput, qWW, qmW, qkW, qnW, K_3 hK, K_15 hK, K_16 hK, K_17 hK, P_3_12 hP, P_15_0 hP, P_15_1 hP, n1, e1, e2, ri, ki, zi, if_pos hlt, if_pos c1, if_pos c2, q32]
            exact r1
          · by_cases c3 : zm S 90 (zm S 93 i) = zm S 90 r
            · by_cases c4 : (i : Int) < w
              · rw [if_pos ⟨c1, Or.inr ⟨c3, c4⟩⟩] at r1
                simp (config := { maxSteps := 2000000 }) (disch := first | omega | (simp only [K_3 hK, K_15 hK, K_16 hK, K_17 hK, P_3_12 hP, P_15_0 hP, P_15_1 hP, ki, qb_in, qkW, qmW, qnW, true_and, and_true, or_self, true_or, or_true, and_self]; done) | (simp only [K_3 hK, K_15 hK, K_16 hK, K_17 hK, P_3_12 hP, P_15_0 hP, P_15_1 hP, ki, qb_in, qkW, qmW, qnW, true_and, and_true, or_self, true_or, or_true, and_self]; omega)) only [b149_0, b149_5, b149_14, b149_24, b149_32, b149_34, b149_52, b149_66, b149_85, b149_91, b149_97, b149_104, b149_107, b149_113, qcall_l, qcall_r, qretn_l, qJ_s, qJ_n, qV0, qEx, ↓qif0, ↓zchk_pos, ↓reduceIte, qput, qWW, qmW, qkW, qnW, K_3 hK, K_15 hK, K_16 hK, K_17 hK, P_3_12 hP, P_15_0 hP, P_15_1 hP, n1, e1, e2, ri, ki, zi, if_pos hlt, if_pos c1, if_neg c2, if_pos c3, if_pos c4, q32]
                exact r1
              · rw [if_neg (fun z => z.2.elim c2 fun y => c4 y.2), Int.add_zero] at r1
                simp (config := { maxSteps := 2000000 }) (disch := first | omega | (simp only [K_3 hK, K_15 hK, K_16 hK, K_17 hK, P_3_12 hP, P_15_0 hP, P_15_1 hP, ki, qb_in, qkW, qmW, qnW, true_and, and_true, or_self, true_or, or_true, and_self]; done) | (simp only [K_3 hK, K_15 hK, K_16 hK, K_17 hK, P_3_12 hP, P_15_0 hP, P_15_1 hP, ki, qb_in, qkW, qmW, qnW, true_and, and_true, or_self, true_or, or_true, and_self]; omega)) only [b149_0, b149_5, b149_14, b149_24, b149_32, b149_34, b149_52, b149_66, b149_85, b149_91, b149_97, b149_104, b149_107, b149_113, qcall_l, qcall_r, qretn_l, qJ_s, qJ_n, qV0, qEx, ↓qif0, ↓zchk_pos, ↓reduceIte, qput, qWW, qmW, qkW, qnW, K_3 hK, K_15 hK, K_16 hK, K_17 hK, P_3_12 hP, P_15_0 hP, P_15_1 hP, n1, e1, e2, ri, ki, zi, if_pos hlt, if_pos c1, if_neg c2, if_pos c3, if_neg c4, q32]
                exact r1
            · rw [if_neg (fun z => z.2.elim c2 fun y => c3 y.1), Int.add_zero] at r1
              simp (config := { maxSteps := 2000000 }) (disch := first | omega | (simp only [K_3 hK, K_15 hK, K_16 hK, K_17 hK, P_3_12 hP, P_15_0 hP, P_15_1 hP, ki, qb_in, qkW, qmW, qnW, true_and, and_true, or_self, true_or, or_true, and_self]; done) | (simp only [K_3 hK, K_15 hK, K_16 hK, K_17 hK, P_3_12 hP, P_15_0 hP, P_15_1 hP, ki, qb_in, qkW, qmW, qnW, true_and, and_true, or_self, true_or, or_true, and_self]; omega)) only [b149_0, b149_5, b149_14, b149_24, b149_32, b149_34, b149_52, b149_66, b149_85, b149_91, b149_97, b149_104, b149_107, b149_113, qcall_l, qcall_r, qretn_l, qJ_s, qJ_n, qV0, qEx, ↓qif0, ↓zchk_pos, ↓reduceIte, qput, qWW, qmW, qkW, qnW, K_3 hK, K_15 hK, K_16 hK, K_17 hK, P_3_12 hP, P_15_0 hP, P_15_1 hP, n1, e1, e2, ri, ki, zi, if_pos hlt, if_pos c1, if_neg c2, if_neg c3, q32]
              exact r1
        · rw [if_neg (fun z => c1 z.1), Int.add_zero] at r1
          simp (config := { maxSteps := 2000000 }) (disch := first | omega | (simp only [K_3 hK, K_15 hK, K_16 hK, K_17 hK, P_3_12 hP, P_15_0 hP, P_15_1 hP, ki, qb_in, qkW, qmW, qnW, true_and, and_true, or_self, true_or, or_true, and_self]; done) | (simp only [K_3 hK, K_15 hK, K_16 hK, K_17 hK, P_3_12 hP, P_15_0 hP, P_15_1 hP, ki, qb_in, qkW, qmW, qnW, true_and, and_true, or_self, true_or, or_true, and_self]; omega)) only [b149_0, b149_5, b149_14, b149_24, b149_32, b149_34, b149_52, b149_66, b149_85, b149_91, b149_97, b149_104, b149_107, b149_113, qcall_l, qcall_r, qretn_l, qJ_s, qJ_n, qV0, qEx, ↓qif0, ↓zchk_pos, ↓reduceIte, qput, qWW, qmW, qkW, qnW, K_3 hK, K_15 hK, K_16 hK, K_17 hK, P_3_12 hP, P_15_0 hP, P_15_1 hP, n1, e1, e2, ri, ki, zi, if_pos hlt, if_neg c1, q32]
          exact r1
    have r1 := lp (zm S 37 80).toNat 0 vu (by omega)
    rw [if_neg c]
    simp (config := { maxSteps := 2000000 }) (disch := first | omega | (simp only [K_3 hK, K_15 hK, P_3_12 hP, kx, qb_in, qkW, qmW, qnW, true_and, and_true, or_self, true_or, or_true, and_self]; done) | (simp only [K_3 hK, K_15 hK, P_3_12 hP, kx, qb_in, qkW, qmW, qnW, true_and, and_true, or_self, true_or, or_true, and_self]; omega)) only [zD_149, b149_0, b149_5, b149_14, b149_24, b149_32, b149_34, b149_52, b149_66, b149_85, b149_91, b149_97, b149_104, b149_107, b149_113, qcall_l, qcall_r, qretn_l, qJ_s, qJ_n, qV0, qEx, ↓qif0, ↓zchk_pos, ↓reduceIte, qput, qWW, qmW, qkW, qnW, K_3 hK, K_15 hK, P_3_12 hP, ro, bo, fi, kx, z0, if_neg c]
    exact r1
theorem r_ahead (e : Nat) (S : zS) (r b w : Int) (he : 3 ≤ e) (hK : qK S) (hP : qP (zm S)) (hNr : qNr S) (hw : qYw S) (h1 : 0 ≤ r ∧ r < zm S 37 76) : ∀ (g i : Nat) (x6 : zV), i + g = (zm S 37 80).toNat → zF_304 e 43 [vr 37, vi r, vi b, vi w, vi (qah (zm S) r b w i), vi i, x6] [] S = some (.inl (some (vi (if w = -1 then -1 else qah (zm S) r b w (zm S 37 80).toNat))), S) := by
  obtain ⟨⟨n1, n2⟩, w1, w2⟩ := hw
  have n6 := hNr.2
  intro g
  induction g with
  | zero =>
    intro i x6 hi
    obtain rfl : i = (zm S 37 80).toNat := by omega
    rw [b304_43]
    by_cases c : w = -1
    · rw [if_pos c]
      simp (config := { maxSteps := 2000000 }) (disch := first | omega | (simp only [K_37 hK, qb_in, qkW, qmW, qnW, true_and, and_true, or_self, true_or, or_true, and_self]; done) | (simp only [K_37 hK, qb_in, qkW, qmW, qnW, true_and, and_true, or_self, true_or, or_true, and_self]; omega)) only [b304_0, b304_6, b304_9, b304_14, b304_17, b304_21, b304_22, b304_25, b304_28, b304_30, b304_36, b304_52, b304_69, b304_79, b304_90, b304_101, b304_107, b304_111, b304_112, b304_121, b304_126, b304_130, b304_132, qcall_l, qcall_r, qretn_l, qJ_s, qJ_n, qV0, qEx, ↓qif0, ↓zchk_pos, ↓reduceIte, qput, qWW, qmW, qkW, qnW, K_37 hK, if_neg (show ¬ (((zm S 37 80).toNat : Nat) : Int) < zm S 37 80 by omega), if_pos c]
    · rw [if_neg c]
      simp (config := { maxSteps := 2000000 }) (disch := first | omega | (simp only [K_37 hK, qb_in, qkW, qmW, qnW, true_and, and_true, or_self, true_or, or_true, and_self]; done) | (simp only [K_37 hK, qb_in, qkW, qmW, qnW, true_and, and_true, or_self, true_or, or_true, and_self]; omega)) only [b304_0, b304_6, b304_9, b304_14, b304_17, b304_21, b304_22, b304_25, b304_28, b304_30, b304_36, b304_52, b304_69, b304_79, b304_90, b304_101, b304_107, b304_111, b304_112, b304_121, b304_126, b304_130, b304_132, qcall_l, qcall_r, qretn_l, qJ_s, qJ_n, qV0, qEx, ↓qif0, ↓zchk_pos, ↓reduceIte, qput, qWW, qmW, qkW, qnW, K_37 hK, if_neg (show ¬ (((zm S 37 80).toNat : Nat) : Int) < zm S 37 80 by omega), if_neg c]
  | succ g ih =>
    intro i x6 hi
    have hlt : (i : Int) < zm S 37 80 := by omega
    obtain ⟨e1, e2, e3, e4⟩ := w1 i (by omega) hlt
    have qr := qah_r (zm S) r b w i
    have r1 := ih (i + 1) vu (by omega)
    rw [qah] at r1
    rw [b304_43]
    by_cases c1 : zm S 94 i = b
    · by_cases c2 : zm S 90 r < zm S 90 (zm S 93 i)
      · rw [if_pos ⟨c1, Or.inl c2⟩] at r1
        simp (config := { maxSteps := 2000000 }) (disch := first | omega | (simp only [K_37 hK, K_90 hK, K_93 hK, K_94 hK, P_37_77 hP, P_37_81 hP, P_37_82 hP, qb_in, qkW, qmW, qnW, true_and, and_true, or_self, true_or, or_true, and_self]; done) | (simp only [K_37 hK, K_90 hK, K_93 hK, K_94 hK, P_37_77 hP, P_37_81 hP, P_37_82 hP, qb_in, qkW, qmW, qnW, true_and, and_true, or_self, true_or, or_true, and_self]; omega)) only [b304_0, b304_6, b304_9, b304_14, b304_17, b304_21, b304_22, b304_25, b304_28, b304_30, b304_36, b304_52, b304_69, b304_79, b304_90, b304_101, b304_107, b304_111, b304_112, b304_121, b304_126, b304_130, b304_132, qcall_l, qcall_r, qretn_l, qJ_s, qJ_n, qV0, qEx, ↓qif0, ↓zchk_pos, ↓reduceIte, qput, qWW, qmW, qkW, qnW, K_37 hK, K_90 hK, K_93 hK, K_94 hK, P_37_77 hP, P_37_81 hP, P_37_82 hP, if_pos hlt, if_pos c1, if_pos c2, q32]
        exact r1
      · by_cases c3 : zm S 90 (zm S 93 i) = zm S 90 r
        · by_cases c4 : (i : Int) < w
          · rw [if_pos ⟨c1, Or.inr ⟨c3, c4⟩⟩] at r1
            simp (config := { maxSteps := 2000000 }) (disch := first | omega | (simp only [K_37 hK, K_90 hK, K_93 hK, K_94 hK, P_37_77 hP, P_37_81 hP, P_37_82 hP, qb_in, qkW, qmW, qnW, true_and, and_true, or_self, true_or, or_true, and_self]; done) | (simp only [K_37 hK, K_90 hK, K_93 hK, K_94 hK, P_37_77 hP, P_37_81 hP, P_37_82 hP, qb_in, qkW, qmW, qnW, true_and, and_true, or_self, true_or, or_true, and_self]; omega)) only [b304_0, b304_6, b304_9, b304_14, b304_17, b304_21, b304_22, b304_25, b304_28, b304_30, b304_36, b304_52, b304_69, b304_79, b304_90, b304_101, b304_107, b304_111, b304_112, b304_121, b304_126, b304_130, b304_132, qcall_l, qcall_r, qretn_l, qJ_s, qJ_n, qV0, qEx, ↓qif0, ↓zchk_pos, ↓reduceIte, qput, qWW, qmW, qkW, qnW, K_37 hK, K_90 hK, K_93 hK, K_94 hK, P_37_77 hP, P_37_81 hP, P_37_82 hP, if_pos hlt, if_pos c1, if_neg c2, if_pos c3, if_pos c4, q32]
            exact r1
          · rw [if_neg (fun z => z.2.elim c2 fun y => c4 y.2), Int.add_zero] at r1
            simp (config := { maxSteps := 2000000 }) (disch := first | omega | (simp only [K_37 hK, K_90 hK, K_93 hK, K_94 hK, P_37_77 hP, P_37_81 hP, P_37_82 hP, qb_in, qkW, qmW, qnW, true_and, and_true, or_self, true_or, or_true, and_self]; done) | (simp only [K_37 hK, K_90 hK, K_93 hK, K_94 hK, P_37_77 hP, P_37_81 hP, P_37_82 hP, qb_in, qkW, qmW, qnW, true_and, and_true, or_self, true_or, or_true, and_self]; omega)) only [b304_0, b304_6, b304_9, b304_14, b304_17, b304_21, b304_22, b304_25, b304_28, b304_30, b304_36, b304_52, b304_69, b304_79, b304_90, b304_101, b304_107, b304_111, b304_112, b304_121, b304_126, b304_130, b304_132, qcall_l, qcall_r, qretn_l, qJ_s, qJ_n, qV0, qEx, ↓qif0, ↓zchk_pos, ↓reduceIte, qput, qWW, qmW, qkW, qnW, K_37 hK, K_90 hK, K_93 hK, K_94 hK, P_37_77 hP, P_37_81 hP, P_37_82 hP, if_pos hlt, if_pos c1, if_neg c2, if_pos c3, if_neg c4, Int.add_zero, q32]
            exact r1
        · rw [if_neg (fun z => z.2.elim c2 fun y => c3 y.1), Int.add_zero] at r1
          simp (config := { maxSteps := 2000000 }) (disch := first | omega | (simp only [K_37 hK, K_90 hK, K_93 hK, K_94 hK, P_37_77 hP, P_37_81 hP, P_37_82 hP, qb_in, qkW, qmW, qnW, true_and, and_true, or_self, true_or, or_true, and_self]; done) | (simp only [K_37 hK, K_90 hK, K_93 hK, K_94 hK, P_37_77 hP, P_37_81 hP, P_37_82 hP, qb_in, qkW, qmW, qnW, true_and, and_true, or_self, true_or, or_true, and_self]; omega)) only [b304_0, b304_6, b304_9, b304_14, b304_17, b304_21, b304_22, b304_25, b304_28, b304_30, b304_36, b304_52, b304_69, b304_79, b304_90, b304_101, b304_107, b304_111, b304_112, b304_121, b304_126, b304_130, b304_132, qcall_l, qcall_r, qretn_l, qJ_s, qJ_n, qV0, qEx, ↓qif0, ↓zchk_pos, ↓reduceIte, qput, qWW, qmW, qkW, qnW, K_37 hK, K_90 hK, K_93 hK, K_94 hK, P_37_77 hP, P_37_81 hP, P_37_82 hP, if_pos hlt, if_pos c1, if_neg c2, if_neg c3, Int.add_zero, q32]
          exact r1
    · rw [if_neg (fun z => c1 z.1), Int.add_zero] at r1
      simp (config := { maxSteps := 2000000 }) (disch := first | omega | (simp only [K_37 hK, K_90 hK, K_93 hK, K_94 hK, P_37_77 hP, P_37_81 hP, P_37_82 hP, qb_in, qkW, qmW, qnW, true_and, and_true, or_self, true_or, or_true, and_self]; done) | (simp only [K_37 hK, K_90 hK, K_93 hK, K_94 hK, P_37_77 hP, P_37_81 hP, P_37_82 hP, qb_in, qkW, qmW, qnW, true_and, and_true, or_self, true_or, or_true, and_self]; omega)) only [b304_0, b304_6, b304_9, b304_14, b304_17, b304_21, b304_22, b304_25, b304_28, b304_30, b304_36, b304_52, b304_69, b304_79, b304_90, b304_101, b304_107, b304_111, b304_112, b304_121, b304_126, b304_130, b304_132, qcall_l, qcall_r, qretn_l, qJ_s, qJ_n, qV0, qEx, ↓qif0, ↓zchk_pos, ↓reduceIte, qput, qWW, qmW, qkW, qnW, K_37 hK, K_90 hK, K_93 hK, K_94 hK, P_37_77 hP, P_37_81 hP, P_37_82 hP, if_pos hlt, if_neg c1, Int.add_zero, q32]
      exact r1
theorem q_ahead (d : Nat) (S : zS) (r b : Int) (Q : zS → Prop) (h : 4 ≤ d) (hK : qK S) (hP : qP (zm S)) (hC : qRC S) (hn : 103 ≤ (zn S : Int)) (hNb : qNb S) (hPo : qPo S) (hQ0 : ∀ v, Q (zbump (qW S (qu (zm S) 37 0 v)))) (hQ : ∀ m2, qFq S m2 → Q (qW S m2)) :
    qUn vi qid Q S (zD d 149 [vr 3, vi r, vi b] S) (zD d 304 [vr 37, vi r, vi b]) qpsF := by
  have hr := hPo.2.2.2.2.1
  have hw := hPo.2.2.1
  by_cases c : 0 ≤ r ∧ r < zm S 37 76
  · by_cases c2 : 0 ≤ b ∧ b < zm S 37 16
    · refine qUn_s hC (s_ahead d S r b (by omega) hK hP hNb hw hr c c2) (fun o => ?_) hQ
      obtain ⟨e, rfl, he⟩ := qd h
      have qf := qFq_a S o
      have hP1 := qFq_P hC hP qf
      obtain ⟨-, -, b3, -, b5, -⟩ := qPo_f hC hPo qf hn
      obtain ⟨M, hM⟩ : ∃ M, qu (zm S) 102 0 o = M := ⟨_, rfl⟩
      rw [hM] at qf hP1 b3 b5 ⊢
      have m37 : M 37 = zm S 37 := by rw [← hM, qu_o _ _ _ _ _ (by decide)]
      have ir := r_isreader_y e (qW S M) r (by omega) hK (by show 0 ≤ M 37 76 ∧ M 37 76 ≤ 6; rw [m37]; exact hr.1.2) (by show 0 ≤ r ∧ r < M 37 76; rw [m37]; exact c)
      have ib := r_isbook_y e (qW S M) b (by omega) hK (by show 0 ≤ M 37 16 ∧ M 37 16 ≤ 4; rw [m37]; exact hNb.2) (by show 0 ≤ b ∧ b < M 37 16; rw [m37]; exact c2)
      have hd := r_holds e (qW S M) 0 (by omega) hK
      rw [qb_p rfl] at hd
      have hd : zD e 182 [vr 37, vi 0] (qW S M) = some (.inl (some (vi 1)), qW S (qu M 37 0 0)) := hd
      have hx : ∀ x, x ≠ 102 → x ≠ 37 → qu M 37 0 0 x = zm S x := fun x x1 x2 => by rw [qu_o _ _ _ _ _ x2, ← hM, qu_o _ _ _ _ _ x1]
      have e76 : qu M 37 0 0 37 76 = zm S 37 76 := by rw [qu_i _ _ _ _ _ (by decide), m37]
      have e80 : qu M 37 0 0 37 80 = zm S 37 80 := by rw [qu_i _ _ _ _ _ (by decide), m37]
      have wo := r_wishOf e (qW S (qu M 37 0 0)) r b (by omega) hK hP1 b3.1.2
      have ra := r_ahead e (qW S (qu M 37 0 0)) r b (qwi (zm S) r b (zm S 37 80).toNat) (by omega) hK hP1 b5.1 b3 (by show 0 ≤ r ∧ r < qu M 37 0 0 37 76; rw [e76]; exact c) (zm S 37 80).toNat 0 vu (by show 0 + _ = (qu M 37 0 0 37 80).toNat; rw [e80]; omega)
      simp only [qmW, e80, qwi_e (hx 94 (by decide) (by decide)) (hx 93 (by decide) (by decide)), qah_e (hx 94 (by decide) (by decide)) (hx 90 (by decide) (by decide)) (hx 93 (by decide) (by decide))] at wo ra
      have ra : zF_304 e 43 [vr 37, vi r, vi b, vi (qwi (zm S) r b (zm S 37 80).toNat), vi 0, vi 0, vu] [] (qW S (qu M 37 0 0)) = _ := ra
      refine ⟨qu M 37 0 0, ?_, qu_s _ _ _ _, by rw [qu_o _ _ _ _ _ (by decide), ← hM, qu_s], qf⟩
      simp (config := { maxSteps := 2000000 }) (disch := first | omega | (simp only [K_37 hK, qb_in, qkW, qmW, qnW, true_and, and_true, or_self, true_or, or_true, and_self]; done) | (simp only [K_37 hK, qb_in, qkW, qmW, qnW, true_and, and_true, or_self, true_or, or_true, and_self]; omega)) only [zD_304, b304_0, b304_6, b304_9, b304_14, b304_17, b304_21, b304_22, b304_25, b304_28, b304_30, b304_36, b304_52, b304_69, b304_79, b304_90, b304_101, b304_107, b304_111, b304_112, b304_121, b304_126, b304_130, b304_132, qcall_l, qcall_r, qretn_l, qJ_s, qJ_n, qV0, qEx, ↓qif0, ↓zchk_pos, ↓reduceIte, qput, qWW, qmW, qkW, qnW, K_37 hK, ir, ib, hd, wo, Int.reduceEq]
      exact ra
    · refine qUn_no ⟨2, ?_, ?_, by decide⟩ hQ0
      · obtain ⟨e, rfl, he⟩ := qd h
        have ro := s_readerOf_y e S r (by omega) hK hP hr.1 c
        have bo := s_bookOf_n e S b (by omega) hK hNb c2
        obtain ⟨⟨kx, -⟩, -⟩ := hr.2.1 r c.1 c.2
        simp (config := { maxSteps := 2000000 }) (disch := first | omega | (simp only [K_3 hK, kx, qb_in, qkW, qmW, qnW, true_and, and_true, or_self, true_or, or_true, and_self]; done) | (simp only [K_3 hK, kx, qb_in, qkW, qmW, qnW, true_and, and_true, or_self, true_or, or_true, and_self]; omega)) only [zD_149, b149_0, b149_5, b149_14, b149_24, b149_32, b149_34, b149_52, b149_66, b149_85, b149_91, b149_97, b149_104, b149_107, b149_113, qcall_l, qcall_r, qretn_l, qJ_s, qJ_n, qV0, qEx, ↓qif0, ↓zchk_pos, ↓reduceIte, qput, qWW, qmW, qkW, qnW, K_3 hK, ro, bo, kx]
      · obtain ⟨e, rfl, he⟩ := qd h
        have hKb : qK (zbump S) := hK
        have ir := r_isreader_y e (zbump S) r (by omega) hK hr.1.2 c
        have ib := r_isbook_n e S b (by omega) hK hNb.2 c2
        have hd := r_refuse e S 1 (by omega) hK (by decide)
        simp (config := { maxSteps := 2000000 }) (disch := first | omega | (simp only [K_37 hKb, qb_in, qkW, qmW, qnW, true_and, and_true, or_self, true_or, or_true, and_self]; done) | (simp only [K_37 hKb, qb_in, qkW, qmW, qnW, true_and, and_true, or_self, true_or, or_true, and_self]; omega)) only [zD_304, b304_0, b304_6, b304_9, b304_14, b304_17, b304_21, b304_22, b304_25, b304_28, b304_30, b304_36, b304_52, b304_69, b304_79, b304_90, b304_101, b304_107, b304_111, b304_112, b304_121, b304_126, b304_130, b304_132, qcall_l, qcall_r, qretn_l, qJ_s, qJ_n, qV0, qEx, ↓qif0, ↓zchk_pos, ↓reduceIte, qput, qWW, qmW, qkW, qnW, K_37 hKb, ir, ib, hd, Int.reduceEq]
        rfl
  · exact qUn_no (q_ahead_n d S r b (by omega) hK hr.1 c) hQ0
