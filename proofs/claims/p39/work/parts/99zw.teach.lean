/-! What is taught; a wish. -/
theorem zor_nat (a b : Nat) (ha : a < 2147483648) (hb : b < 2147483648) : zor (a : Int) (b : Int) = ((a ||| b : Nat) : Int) := by
  have e : ∀ x : Nat, x < 2147483648 → (BitVec.ofInt 32 (x : Int)).toNat = x := fun x hx => by
    rw [BitVec.toNat_ofInt]
    omega
  have l : (a ||| b) < 2147483648 := Nat.or_lt_two_pow (n := 31) ha hb
  unfold zor
  show (Int32.ofInt (a : Int) ||| Int32.ofInt (b : Int)).toBitVec.toInt = _
  rw [Int32.toBitVec_or]
  show (BitVec.ofInt 32 (a : Int) ||| BitVec.ofInt 32 (b : Int)).toInt = _
  rw [BitVec.toInt_eq_toNat_of_lt (by rw [BitVec.toNat_or, e a ha, e b hb]; omega), BitVec.toNat_or, e a ha, e b hb]
theorem zshl_1 : ∀ k : Nat, k < 24 → zshl 1 (k : Int) = ((2 ^ k : Nat) : Int) := by decide +kernel
theorem zor_24 {K x : Int} (hK : 0 ≤ K ∧ K < 16777216) (hx : 0 ≤ x ∧ x < 24) : ∃ v : Nat, zor K (zshl 1 x) = (v : Int) ∧ v < 16777216 := by
  obtain ⟨a, rfl⟩ : ∃ a : Nat, K = (a : Int) := ⟨K.toNat, by omega⟩
  obtain ⟨k, rfl⟩ : ∃ k : Nat, x = (k : Int) := ⟨x.toNat, by omega⟩
  have hp : (2 : Nat) ^ k < 2 ^ 24 := Nat.pow_lt_pow_right (by decide) (by omega)
  have hp2 : (2 : Nat) ^ k < 2147483648 := Nat.lt_trans hp (by decide)
  refine ⟨a ||| 2 ^ k, ?_, Nat.or_lt_two_pow (n := 24) (by omega) hp⟩
  rw [zshl_1 k (by omega), zor_nat a (2 ^ k) (by omega) hp2]
theorem q_teach (d : Nat) (S : zS) (r c x : Int) (h : 4 ≤ d) (hH : qHC S) :
    qUn vi qid (qGo S) S (zD d 142 [vr 3, vi r, vi c, vi x] S) (zD d 291 [vr 37, vi r, vi c, vi x]) qpsF := by
  obtain ⟨⟨⟨⟨hK, hP, hL, hn⟩, ⟨hT, hC, hR, hk⟩, ⟨p1, p2, p3, p4, p5, p6⟩, hY⟩, hBB⟩, hYC, hFc⟩ := id hH
  have hKb : qK (zbump S) := hK
  by_cases c1 : 0 ≤ r ∧ r < zm S 37 76
  · obtain ⟨e, rfl, he⟩ := qd h
    have ro := s_readerOf_y e S r (by omega) hK hP p5.1 c1
    obtain ⟨⟨kr, kk, x0, x1, x2⟩, -, -, -, -, rk⟩ := p5.2.1 r c1.1 c1.2
    have irb := r_isreader_y e (zbump S) r (by omega) hK p5.1.2 c1
    have hd1 := r_refuse e S 1 (by omega) hK (by decide)
    have r6 : r < 6 := by have := p5.1.2; omega
    by_cases c2 : 0 ≤ c ∧ c < zm S 37 4
    · have co := s_codeOf_y e S c (by omega) hK hP hC c2
      obtain ⟨⟨kc, -⟩, ⟨-, -, cn, N24, -⟩, -⟩ := hC.2.2.1 c c2.1 c2.2
      have c03 : c < 3 := by have := hC.2.1; omega
      have icb := r_isCode' e (zbump S) c (by omega) hKb hC.2.1
      rw [qb_p (show 0 ≤ c ∧ c ≤ zm (zbump S) 37 4 - 1 by show 0 ≤ c ∧ c ≤ zm S 37 4 - 1; omega)] at icb
      have zN : z32 (zm S 39 c - 1) = zm S 39 c - 1 := q32 (by omega)
      have p5' := P_37_5 hP
      by_cases c3 : 0 ≤ x ∧ x < zm S 39 c
      · -- it is taught
        obtain ⟨K1, K2, K3⟩ := rk c c2.1 c03
        obtain ⟨v, hv, v24⟩ := zor_24 (K := zm S 91 (3 * r + c)) ⟨K2, K3⟩ (x := x) ⟨c3.1, by omega⟩
        obtain ⟨y, hy⟩ : ∃ y, zm S 14 r = y := ⟨_, rfl⟩
        rw [hy] at ro kr kk x0 x1 x2 K1
        have sb := s_bitCount e v (qW S (qu (zm S) (y + 1) c (v : Int))) (by omega) v24
        have ey : qu (zm S) (y + 1) c (v : Int) y = zm S y := qu_o _ _ _ _ _ (by omega)
        refine Or.inl ⟨(qpc 24 v : Nat), qW S (qu (zm S) (y + 1) c (v : Int)), ?_, qKs_w S _ (qu_o _ _ _ _ _ (by omega)), ?_⟩
        · simp (config := { maxSteps := 2000000 }) (disch := first | omega | (simp only [K_3 hK, kr, kk, x2, ey, c2.1, c03, qb_in, qkW, qmW, qnW, true_and, and_true, or_self, true_or, or_true, and_self]; done) | (simp only [K_3 hK, kr, kk, x2, ey, c2.1, c03, qb_in, qkW, qmW, qnW, true_and, and_true, or_self, true_or, or_true, and_self]; omega)) only [zD_142, b142_0, b142_5, b142_12, b142_18, b142_27, b142_38, b142_51, b142_61, qcall_l, qcall_r, qretn_l, qJ_s, qJ_n, qV0, qEx, ↓qif0, ↓zchk_pos, ↓reduceIte, qput, qWW, qmW, qkW, qnW, K_3 hK, ro, co, kr, kk, kc, cn, if_neg (show ¬ x < 0 by omega), if_pos c3.2, x2, K1, hv, ey, qu_s, sb]
        · obtain ⟨m1, hm1⟩ : ∃ m1, qu (qu (zm S) (y + 1) c (v : Int)) 102 0 (qid (qpc 24 v : Nat)) = m1 := ⟨_, rfl⟩
          have hq : qo (qW S (qu (zm S) (y + 1) c (v : Int))) (qid (qpc 24 v : Nat)) = qW S m1 := by rw [← hm1]; rfl
          have k1 : ∀ z, z ≠ 102 → z ≠ y + 1 → m1 z = zm S z := fun z h1 h2 => by rw [← hm1, qu_o _ _ _ _ _ h1, qu_o _ _ _ _ _ h2]
          have k37 : m1 37 = zm S 37 := k1 37 (by decide) (by omega)
          have ir := r_isreader_y e (qW S m1) r (by omega) hK (by show 0 ≤ m1 37 76 ∧ m1 37 76 ≤ 6; rw [k37]; exact p5.1.2) (by show 0 ≤ r ∧ r < m1 37 76; rw [k37]; exact c1)
          have ic := r_isCode' e (qW S m1) c (by omega) hK (by show 0 ≤ m1 37 4 ∧ m1 37 4 ≤ 3; rw [k37]; exact hC.2.1)
          rw [qb_p (show 0 ≤ c ∧ c ≤ zm (qW S m1) 37 4 - 1 by show 0 ≤ c ∧ c ≤ m1 37 4 - 1; rw [k37]; omega)] at ic
          have ii := r_in e x 0 (zm S 39 c - 1) (qW S m1) (by omega)
          rw [qb_p (show 0 ≤ x ∧ x ≤ zm S 39 c - 1 by omega)] at ii
          have hd := r_hold0 e S m1 (by omega) hK
          obtain ⟨m2, hm2⟩ : ∃ m2, qu m1 37 0 0 = m2 := ⟨_, rfl⟩
          rw [hm2] at hd
          have k2 : ∀ z, z ≠ 102 → z ≠ y + 1 → z ≠ 37 → m2 z = zm S z := fun z h1 h2 h3 => by rw [← hm2, qu_o _ _ _ _ _ h3, k1 z h1 h2]
          have e78 : m2 37 78 = 91 := by rw [← hm2, qu_i _ _ _ _ _ (by decide), k37]; exact P_37_78 hP
          have q5 : m1 37 5 = 39 := by rw [k37, p5']
          have q39 : m1 39 = zm S 39 := k1 39 (by decide) (by omega)
          have q91 : m2 91 = zm S 91 := k2 91 (by decide) (by omega) (by decide)
          have z1 : z32 (3 * r) = 3 * r := q32 (by omega)
          have z2 : z32 (3 * r + c) = 3 * r + c := q32 (by omega)
          obtain ⟨m3, hm3⟩ : ∃ m3, qu m2 91 (3 * r + c) (v : Int) = m3 := ⟨_, rfl⟩
          have f78 : m3 37 78 = 91 := by rw [← hm3, qu_o _ _ _ _ _ (by decide), e78]
          have f91 : m3 91 (3 * r + c) = (v : Int) := by rw [← hm3, qu_s]
          have rb := r_bits e v (qW S m3) (by omega) v24
          have k3 : ∀ z, z ≠ 102 → z ≠ y + 1 → z ≠ 37 → z ≠ 91 → m3 z = zm S z := fun z h1 h2 h3 h4 => by rw [← hm3, qu_o _ _ _ _ _ h4, k2 z h1 h2 h3]
          have k3' : ∀ j, j ≠ 0 → m3 37 j = zm S 37 j := fun j hj => by rw [← hm3, qu_o _ _ _ _ _ (by decide), ← hm2, qu_i _ _ _ _ _ hj, k37]
          have k91 : ∀ i, m3 91 i = if i = 3 * r + c then (v : Int) else zm S 91 i := fun i => by rw [← hm3, qu_row, q91]
          have ky : ∀ i, m3 (y + 1) i = if i = c then (v : Int) else zm S (y + 1) i := fun i => by
            rw [← hm3, qu_o _ _ _ _ _ (by omega), ← hm2, qu_o _ _ _ _ _ (by omega), ← hm1, qu_o _ _ _ _ _ (by omega), qu_row]
          refine ⟨qW S m3, ?_, qKs_w S _ (k3 1 (by decide) (by omega) (by decide) (by decide)), ?_, ?_, qGo_w ?_ (k3' 16 (by decide)) (k3' 65 (by decide))⟩
          · rw [hq]
            simp (config := { maxSteps := 2000000 }) (disch := first | omega | (simp only [K_37 hK, K_39 hK, K_91 hK, q5, q39, e78, z1, z2, f78, c2.1, c03, qb_in, qkW, qmW, qnW, true_and, and_true, or_self, true_or, or_true, and_self]; done) | (simp only [K_37 hK, K_39 hK, K_91 hK, q5, q39, e78, z1, z2, f78, c2.1, c03, qb_in, qkW, qmW, qnW, true_and, and_true, or_self, true_or, or_true, and_self]; omega)) only [zD_291, b291_0, b291_5, b291_8, b291_13, b291_16, b291_29, b291_32, b291_36, b291_37, b291_45, b291_49, b291_50, b291_53, b291_56, b291_58, b291_70, b291_82, b291_87, qcall_l, qcall_r, qretn_l, qJ_s, qJ_n, qV0, qEx, ↓qif0, ↓zchk_pos, ↓reduceIte, qput, qWW, qmW, qkW, qnW, K_37 hK, K_39 hK, K_91 hK, ir, ic, ii, hd, q5, q39, zN, e78, z1, z2, q91, hv, hm3, f78, f91, rb, Int.reduceEq]
          · show m3 37 0 = 0
            rw [← hm3, qu_o _ _ _ _ _ (by decide), ← hm2, qu_s]
          · show m3 102 0 = _
            rw [← hm3, qu_o _ _ _ _ _ (by decide), ← hm2, qu_o _ _ _ _ _ (by decide), ← hm1, qu_s]
          · refine qk_teach hH (qAg_w fun z j hz => ?_) ⟨?_, fun i i1 i2 => ?_, fun i k i1 i2 k2 => ?_, fun i i1 i2 => ?_⟩
            · have kq := qknn kk
              by_cases z1 : z = y + 1
              · exact absurd (by unfold qEk_teach; rw [z1]; omega) hz
              · by_cases z2 : z = 37
                · subst z2
                  exact k3' j fun q => hz (by unfold qEk_teach; omega)
                · exact congrFun (k3 z (fun q => hz (by unfold qEk_teach; omega)) z1 z2 fun q => hz (by unfold qEk_teach; omega)) j
            · unfold qNr
              show m3 3 11 = m3 37 76 ∧ 0 ≤ m3 37 76 ∧ m3 37 76 ≤ 6
              rw [k3 3 (by decide) (by omega) (by decide) (by decide), k3' 76 (by decide)]
              exact p5.1
            · have i2 : i < m3 37 76 := i2
              rw [k3' 76 (by decide)] at i2
              obtain ⟨⟨b1, b2, b3, b4, b5⟩, g0, g1, g2, g3, g4⟩ := p5.2.1 i i1 i2
              have ne1 : zm S 14 i ≠ y + 1 := qkne b1 kk (by decide)
              have e14 : m3 14 = zm S 14 := k3 14 (by decide) (by omega) (by decide) (by decide)
              have exi : m3 (zm S 14 i) = zm S (zm S 14 i) := k3 _ (by omega) ne1 (by omega) (by omega)
              show (zk S (m3 14 i) = (27, 0) ∧ zk S (m3 14 i + 1) = (0, 3) ∧ 103 ≤ m3 14 i ∧ m3 14 i + 2 ≤ zn S ∧ m3 (m3 14 i) 1 = m3 14 i + 1) ∧ m3 (m3 14 i) 0 = m3 90 i ∧ (0 ≤ m3 90 i ∧ m3 90 i ≤ 2) ∧ m3 (m3 14 i) 3 = m3 92 i ∧ (-2147483648 ≤ m3 92 i ∧ m3 92 i < 2147483648) ∧ (∀ c, 0 ≤ c → c < 3 → m3 (m3 14 i + 1) c = m3 91 (3 * i + c) ∧ 0 ≤ m3 91 (3 * i + c) ∧ m3 91 (3 * i + c) < 16777216)
              rw [e14, exi, k3 90 (by decide) (by omega) (by decide) (by decide), k3 92 (by decide) (by omega) (by decide) (by decide)]
              refine ⟨⟨b1, b2, b3, b4, b5⟩, g0, g1, g2, g3, fun c' d1 d2 => ?_⟩
              rw [k91]
              by_cases q : i = r
              · subst q
                rw [hy, ky]
                by_cases q2 : c' = c
                · subst q2
                  rw [if_pos rfl, if_pos rfl]
                  omega
                · rw [if_neg q2, if_neg (by omega)]
                  have := g4 c' d1 d2
                  rw [hy] at this
                  exact this
              · have ne2 : zm S 14 i ≠ y := by
                  rcases Int.lt_or_gt_of_ne q with q3 | q3
                  · rw [← hy]; exact p5.2.2.1 i r i1 q3 c1.2
                  · rw [← hy]; exact Ne.symm (p5.2.2.1 r i c1.1 q3 i2)
                rw [if_neg (by omega), k3 _ (by omega) (by omega) (by omega) (by omega)]
                exact g4 c' d1 d2
            · have k2 : k < m3 37 76 := k2
              rw [k3' 76 (by decide)] at k2
              show m3 14 i ≠ m3 14 k
              rw [k3 14 (by decide) (by omega) (by decide) (by decide)]
              exact p5.2.2.1 i k i1 i2 k2
            · have i1 : m3 37 76 ≤ i := i1
              rw [k3' 76 (by decide)] at i1
              obtain ⟨g1, g2⟩ := p5.2.2.2 i i1 i2
              refine ⟨?_, fun c' d1 d2 => ?_⟩
              · show m3 92 i = 0
                rw [k3 92 (by decide) (by omega) (by decide) (by decide), g1]
              · show m3 91 (3 * i + c') = 0
                rw [k91, if_neg (by omega)]
                exact g2 c' d1 d2
      · refine qUn_cn hH ⟨2, ?_, ?_, by decide⟩ fun m2 f H => qGo_x hH f H
        · by_cases c4 : x < 0
          · simp (config := { maxSteps := 2000000 }) (disch := first | omega | (simp only [K_3 hK, kr, kc, qb_in, qkW, qmW, qnW, true_and, and_true, or_self, true_or, or_true, and_self]; done) | (simp only [K_3 hK, kr, kc, qb_in, qkW, qmW, qnW, true_and, and_true, or_self, true_or, or_true, and_self]; omega)) only [zD_142, b142_0, b142_5, b142_12, b142_18, b142_27, b142_38, b142_51, b142_61, qcall_l, qcall_r, qretn_l, qJ_s, qJ_n, qV0, qEx, ↓qif0, ↓zchk_pos, ↓reduceIte, qput, qWW, qmW, qkW, qnW, K_3 hK, ro, co, kr, kc, if_pos c4]
          · simp (config := { maxSteps := 2000000 }) (disch := first | omega | (simp only [K_3 hK, kr, kc, qb_in, qkW, qmW, qnW, true_and, and_true, or_self, true_or, or_true, and_self]; done) | (simp only [K_3 hK, kr, kc, qb_in, qkW, qmW, qnW, true_and, and_true, or_self, true_or, or_true, and_self]; omega)) only [zD_142, b142_0, b142_5, b142_12, b142_18, b142_27, b142_38, b142_51, b142_61, qcall_l, qcall_r, qretn_l, qJ_s, qJ_n, qV0, qEx, ↓qif0, ↓zchk_pos, ↓reduceIte, qput, qWW, qmW, qkW, qnW, K_3 hK, ro, co, kr, kc, cn, if_neg c4, if_neg (show ¬ x < zm S 39 c by omega)]
        · have ii := r_in e x 0 (zm S 39 c - 1) (zbump S) (by omega)
          rw [qb_n (show ¬ (0 ≤ x ∧ x ≤ zm S 39 c - 1) by omega)] at ii
          have e5 : zm (zbump S) 37 5 = 39 := p5'
          have e39 : zm (zbump S) 39 c = zm S 39 c := rfl
          simp (config := { maxSteps := 2000000 }) (disch := first | omega | (simp only [K_37 hKb, K_39 hKb, e5, c2.1, c03, qb_in, qkW, qmW, qnW, true_and, and_true, or_self, true_or, or_true, and_self]; done) | (simp only [K_37 hKb, K_39 hKb, e5, c2.1, c03, qb_in, qkW, qmW, qnW, true_and, and_true, or_self, true_or, or_true, and_self]; omega)) only [zD_291, b291_0, b291_5, b291_8, b291_13, b291_16, b291_29, b291_32, b291_36, b291_37, b291_45, b291_49, b291_50, b291_53, b291_56, b291_58, b291_70, b291_82, b291_87, qcall_l, qcall_r, qretn_l, qJ_s, qJ_n, qV0, qEx, ↓qif0, ↓zchk_pos, ↓reduceIte, qput, qWW, qmW, qkW, qnW, K_37 hKb, K_39 hKb, irb, icb, e5, e39, zN, ii, hd1, Int.reduceEq]
          rfl
    · refine qUn_cn hH ⟨2, ?_, ?_, by decide⟩ fun m2 f H => qGo_x hH f H
      · have co := s_codeOf_n e S c (by omega) hK hC c2
        simp (config := { maxSteps := 2000000 }) (disch := first | omega | (simp only [K_3 hK, kr, qb_in, qkW, qmW, qnW, true_and, and_true, or_self, true_or, or_true, and_self]; done) | (simp only [K_3 hK, kr, qb_in, qkW, qmW, qnW, true_and, and_true, or_self, true_or, or_true, and_self]; omega)) only [zD_142, b142_0, b142_5, b142_12, b142_18, b142_27, b142_38, b142_51, b142_61, qcall_l, qcall_r, qretn_l, qJ_s, qJ_n, qV0, qEx, ↓qif0, ↓zchk_pos, ↓reduceIte, qput, qWW, qmW, qkW, qnW, K_3 hK, ro, co, kr]
      · have ic := r_isCode' e (zbump S) c (by omega) hKb hC.2.1
        rw [qb_n (show ¬ (0 ≤ c ∧ c ≤ zm (zbump S) 37 4 - 1) by show ¬ (0 ≤ c ∧ c ≤ zm S 37 4 - 1); omega)] at ic
        simp (config := { maxSteps := 2000000 }) (disch := first | omega | (simp only [K_37 hKb, qb_in, qkW, qmW, qnW, true_and, and_true, or_self, true_or, or_true, and_self]; done) | (simp only [K_37 hKb, qb_in, qkW, qmW, qnW, true_and, and_true, or_self, true_or, or_true, and_self]; omega)) only [zD_291, b291_0, b291_5, b291_8, b291_13, b291_16, b291_29, b291_32, b291_36, b291_37, b291_45, b291_49, b291_50, b291_53, b291_56, b291_58, b291_70, b291_82, b291_87, qcall_l, qcall_r, qretn_l, qJ_s, qJ_n, qV0, qEx, ↓qif0, ↓zchk_pos, ↓reduceIte, qput, qWW, qmW, qkW, qnW, K_37 hKb, irb, ic, hd1, Int.reduceEq]
        rfl
  · exact qUn_cn hH (q_teach_n d S r c x (by omega) hK p5.1 c1) fun m2 f H => qGo_x hH f H
