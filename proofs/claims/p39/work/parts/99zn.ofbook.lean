/-! Questions for books: a word, all of a book. -/
/-- dots of a pin -/
def qsb (f : Int → Int) (i : Int) : Nat → Int
  | 0 => 0
  | k + 1 => qsb f i k + qbt (f k) i
theorem qsb_r (f : Int → Int) (i : Int) : ∀ k : Nat, 0 ≤ qsb f i k ∧ qsb f i k ≤ k := by
  intro k
  induction k with
  | zero => exact ⟨Int.le_refl _, Int.le_refl _⟩
  | succ k ih =>
    have := qbt_r (f k) i
    rw [qsb]
    omega
theorem qpi_6 : ∀ v : Nat, v < 64 → qpi (v : Int) = qbt (v : Int) 0 + qbt (v : Int) 1 + qbt (v : Int) 2 + qbt (v : Int) 3 + qbt (v : Int) 4 + qbt (v : Int) 5 := by decide +kernel
theorem qsum_6 (f : Int → Int) (hf : ∀ q, 0 ≤ f q ∧ f q < 64) : ∀ k : Nat, qsum f k = qsb f 0 k + qsb f 1 k + qsb f 2 k + qsb f 3 k + qsb f 4 k + qsb f 5 k := by
  intro k
  induction k with
  | zero => rfl
  | succ k ih =>
    have h6 := qpi_6 (f k).toNat (by have := hf k; omega)
    rw [show (((f k).toNat : Nat) : Int) = f k by have := hf k; omega] at h6
    rw [qsum, ih, h6, qsb, qsb, qsb, qsb, qsb, qsb]
    omega
theorem qsum_z (f : Int → Int) (n : Nat) : ∀ g : Nat, (∀ i : Int, (n : Int) ≤ i → i < n + g → f i = 0) → qsum f (n + g) = qsum f n := by
  intro g
  induction g with
  | zero => intro _; rfl
  | succ g ih =>
    intro h
    show qsum f (n + g) + qpi (f ((n + g : Nat) : Int)) = _
    rw [ih fun i i1 i2 => h i i1 (by omega), h _ (by omega) (by omega), qpi_0, Int.add_zero]
/-- a book that lies: its cells are those of the class -/
def qLc (S : zS) (b : Int) (f : Int → Int) (w t P : Int) : Prop := (18 ≤ w ∧ w ≤ 40) ∧ (3 ≤ t ∧ t ≤ 25) ∧ (0 ≤ P ∧ P ≤ 121 ∧ P * (t * w) ≤ 14520) ∧ (zm S 51 b = w ∧ zm S 52 b = t) ∧ ∀ e p l c, 5 ≤ e → 0 ≤ p → p < P → 0 ≤ l → l < t → 0 ≤ c → c < w → zD e 267 [vr 37, vi b, vi p, vi l, vi c] S = some (.inl (some (vi (f ((p * t + l) * w + c)))), S)
theorem q_lies {S : zS} {b : Int} (hH : qHB1 S) (hb : 0 ≤ b ∧ b < zm S 37 16) (hl : qLd S b) : qLc S b (zm S (zm S 8 b + 2)) (zm S 51 b) (zm S 52 b) (zm S (zm S 8 b) 9) := by
  obtain ⟨⟨⟨hK, hP, hL, hn⟩, -, hY⟩, hBB⟩ := hH
  obtain ⟨-, -, wr, tr, -⟩ := qBs_x (hY.2.1 b hb.1 hb.2)
  obtain ⟨J, gL, gE, gA, gU, gM, P, ll, v0, v1⟩ := qBB_l (hBB b hb.1 hb.2) hl
  obtain ⟨Pr, x9, zk⟩ := qB0_P v0 wr.1 tr
  have hbn : b < 4 := by have := hY.1.2; omega
  have J80 := v0.1.2.1
  rw [x9]
  refine ⟨wr, tr, ⟨Pr.1, Pr.2.2, ?_⟩, ⟨rfl, rfl⟩, fun e p l c he p1 p2 l1 l2 c1 c2 => r_cellAt e S b _ _ _ P ll _ _ p l c _ he hK hP ⟨hb.1, hbn⟩ rfl rfl wr tr v1.1 v0.2.2 zk (by omega) (by omega) ⟨p1, p2⟩ ⟨l1, l2⟩ ⟨c1, c2⟩⟩
  obtain ⟨-, -, q3, q4, -⟩ := qmp_r tr
  have h1 : P * zm S 52 b ≤ qmp (zm S 52 b) * zm S 52 b := Int.mul_le_mul_of_nonneg_right Pr.2.1 (by omega)
  have h2 : P * zm S 52 b * zm S 51 b ≤ 363 * zm S 51 b := Int.mul_le_mul_of_nonneg_right (by omega) (by omega)
  have h3 : P * (zm S 52 b * zm S 51 b) = P * zm S 52 b * zm S 51 b := (Int.mul_assoc _ _ _).symm
  omega
theorem r_dotsLoop (e : Nat) (S : zS) (b i w t P : Int) (f : Int → Int) (he : 6 ≤ e) (hK : qK S) (hP : qP (zm S)) (hb : 0 ≤ b ∧ b < 4) (hi : 0 ≤ i ∧ i < 6) (hc : qLc S b f w t P) :
    ∀ (F : Nat) (p : Nat) (x6 : zV), (p : Int) + F = P → zF_269 e 12 [vr 37, vi b, vi i, vi (qsb f i ((p : Int) * (t * w)).toNat), vi P, vi (p : Int), x6] [] S = some (.inl (some (vi (qsb f i (P * (t * w)).toNat))), S) := by
  obtain ⟨wr, tr, ⟨P0, P1, P2⟩, ⟨h51, h52⟩, hcell⟩ := hc
  have p19 := P_37_19 hP
  have p20 := P_37_20 hP
  have tw0 : 0 ≤ t * w := Int.mul_nonneg (by omega) (by omega)
  have tw1 : t * w ≤ 1000 := by
    have h1 : t * w ≤ 25 * w := Int.mul_le_mul_of_nonneg_right (by omega) (by omega)
    omega
  have z0 : z32 (t * w) = t * w := q32 (by omega)
  have inner : ∀ (G : Nat) (p k : Nat), (p : Int) < P → (k : Int) + G = t * w → zF_269 e 22 [vr 37, vi b, vi i, vi (qsb f i ((p : Int) * (t * w) + k).toNat), vi P, vi (p : Int), vi (k : Int)] [] S = zF_269 e 12 [vr 37, vi b, vi i, vi (qsb f i (((p + 1 : Nat) : Int) * (t * w)).toNat), vi P, vi ((p + 1 : Nat) : Int), vu] [] S := by
    intro G
    induction G with
    | zero =>
      intro p k hp hk
      have e1 : (p : Int) * (t * w) + k = ((p + 1 : Nat) : Int) * (t * w) := by rw [Int.natCast_add, Int.add_mul, Int.natCast_one, Int.one_mul]; omega
      have z1 : z32 ((p : Int) + 1) = ((p + 1 : Nat) : Int) := by rw [q32 (by omega)]; omega
      rw [e1, b269_22]
      simp (config := { maxSteps := 2000000 }) (disch := first | omega | (simp only [K_37 hK, K_51 hK, K_52 hK, p19, p20, qb_in, qkW, qmW, qnW, true_and, and_true, or_self, true_or, or_true, and_self]; done) | (simp only [K_37 hK, K_51 hK, K_52 hK, p19, p20, qb_in, qkW, qmW, qnW, true_and, and_true, or_self, true_or, or_true, and_self]; omega)) only [b269_0, b269_7, b269_19, b269_37, b269_40, b269_54, b269_66, b269_78, b269_84, qcall_l, qcall_r, qretn_l, qJ_s, qJ_n, qV0, qEx, ↓qif0, ↓zchk_pos, ↓reduceIte, qput, qWW, qmW, qkW, qnW, K_37 hK, K_51 hK, K_52 hK, p19, p20, h51, h52, z0, if_neg (show ¬ (k : Int) < t * w by omega), z1]
    | succ G ih =>
      intro p k hp hk
      have pm0 : 0 ≤ (p : Int) * (t * w) := Int.mul_nonneg (by omega) tw0
      have pm1 : (p : Int) * (t * w) + t * w ≤ P * (t * w) := qixm tw0 hp
      have k0 : 0 ≤ (k : Int) / w := Int.ediv_nonneg (by omega) (by omega)
      have k1 := Int.mul_ediv_add_emod (k : Int) w
      have k2 := Int.emod_nonneg (k : Int) (show w ≠ 0 by omega)
      have k3 := Int.emod_lt_of_pos (k : Int) (show 0 < w by omega)
      have k4 : (k : Int) / w < t := by
        by_cases q : (k : Int) / w < t
        · exact q
        · have h1 : t * w ≤ (k : Int) / w * w := Int.mul_le_mul_of_nonneg_right (by omega) (by omega)
          have h2 : w * ((k : Int) / w) = (k : Int) / w * w := Int.mul_comm _ _
          omega
      have td : Int.tdiv (k : Int) w = (k : Int) / w := Int.tdiv_eq_ediv_of_nonneg (by omega)
      have tm : Int.tmod (k : Int) w = (k : Int) % w := Int.tmod_eq_emod_of_nonneg (by omega)
      have z2 : z32 ((k : Int) / w) = (k : Int) / w := q32 (by omega)
      have ce := hcell e p ((k : Int) / w) ((k : Int) % w) (by omega) (by omega) hp k0 k4 k2 k3
      have ix : ((p : Int) * t + (k : Int) / w) * w + (k : Int) % w = (p : Int) * (t * w) + k := by
        rw [Int.add_mul, Int.mul_assoc]
        have h2 : w * ((k : Int) / w) = (k : Int) / w * w := Int.mul_comm _ _
        omega
      rw [ix] at ce
      have br := qbt_r (f ((p : Int) * (t * w) + k)) i
      have bz := qbt_z (f ((p : Int) * (t * w) + k)) i (by omega)
      have sr := qsb_r f i ((p : Int) * (t * w) + k).toNat
      have sn : qsb f i ((p : Int) * (t * w) + ((k + 1 : Nat) : Int)).toNat = qsb f i ((p : Int) * (t * w) + k).toNat + qbt (f ((p : Int) * (t * w) + k)) i := by
        rw [show ((p : Int) * (t * w) + ((k + 1 : Nat) : Int)).toNat = ((p : Int) * (t * w) + k).toNat + 1 by omega, qsb, show ((((p : Int) * (t * w) + k).toNat : Nat) : Int) = (p : Int) * (t * w) + k by omega]
      have r1 := ih p (k + 1) hp (by omega)
      rw [sn] at r1
      generalize qsb f i ((p : Int) * (t * w) + k).toNat = a at *
      generalize qbt (f ((p : Int) * (t * w) + k)) i = u at *
      have z3 : z32 (a + u) = a + u := q32 (by omega)
      have z4 : z32 ((k : Int) + 1) = ((k + 1 : Nat) : Int) := by rw [q32 (by omega)]; omega
      rw [b269_22]
      simp (config := { maxSteps := 2000000 }) (disch := first | omega | (simp only [K_37 hK, K_51 hK, K_52 hK, p19, p20, h51, qb_in, qkW, qmW, qnW, true_and, and_true, or_self, true_or, or_true, and_self]; done) | (simp only [K_37 hK, K_51 hK, K_52 hK, p19, p20, h51, qb_in, qkW, qmW, qnW, true_and, and_true, or_self, true_or, or_true, and_self]; omega)) only [b269_0, b269_7, b269_19, b269_37, b269_40, b269_54, b269_66, b269_78, b269_84, qcall_l, qcall_r, qretn_l, qJ_s, qJ_n, qV0, qEx, ↓qif0, ↓zchk_pos, ↓reduceIte, qput, qWW, qmW, qkW, qnW, K_37 hK, K_51 hK, K_52 hK, p19, p20, h51, h52, z0, if_pos (show (k : Int) < t * w by omega), td, tm, z2, ce, bz, z3, z4]
      exact r1
  intro F
  induction F with
  | zero =>
    intro p x6 hp
    rw [b269_12, show (p : Int) = P by omega]
    simp (config := { maxSteps := 2000000 }) (disch := first | omega | (simp only [qb_in, qkW, qmW, qnW, true_and, and_true, or_self, true_or, or_true, and_self]; done) | (simp only [qb_in, qkW, qmW, qnW, true_and, and_true, or_self, true_or, or_true, and_self]; omega)) only [b269_0, b269_7, b269_19, b269_37, b269_40, b269_54, b269_66, b269_78, b269_84, qcall_l, qcall_r, qretn_l, qJ_s, qJ_n, qV0, qEx, ↓qif0, ↓zchk_pos, ↓reduceIte, qput, qWW, qmW, qkW, qnW, if_neg (show ¬ P < P by omega)]
  | succ F ih =>
    intro p x6 hp
    have r1 := inner (t * w).toNat p 0 (by omega) (by omega)
    rw [show (p : Int) * (t * w) + ((0 : Nat) : Int) = (p : Int) * (t * w) by omega] at r1
    have r1 : zF_269 e 22 [vr 37, vi b, vi i, vi (qsb f i ((p : Int) * (t * w)).toNat), vi P, vi (p : Int), vi 0] [] S = zF_269 e 12 [vr 37, vi b, vi i, vi (qsb f i (((p + 1 : Nat) : Int) * (t * w)).toNat), vi P, vi ((p + 1 : Nat) : Int), vu] [] S := r1
    have r2 := ih (p + 1) vu (by omega)
    rw [b269_12]
    simp (config := { maxSteps := 2000000 }) (disch := first | omega | (simp only [qb_in, qkW, qmW, qnW, true_and, and_true, or_self, true_or, or_true, and_self]; done) | (simp only [qb_in, qkW, qmW, qnW, true_and, and_true, or_self, true_or, or_true, and_self]; omega)) only [b269_0, b269_7, b269_19, b269_37, b269_40, b269_54, b269_66, b269_78, b269_84, qcall_l, qcall_r, qretn_l, qJ_s, qJ_n, qV0, qEx, ↓qif0, ↓zchk_pos, ↓reduceIte, qput, qWW, qmW, qkW, qnW, if_pos (show (p : Int) < P by omega)]
    rw [r1, r2]
theorem r_dotsOf (d : Nat) (S : zS) (b i : Int) (h : 12 ≤ d) (hH : qHB1 S) (hb : 0 ≤ b ∧ b < zm S 37 16) (hi : 0 ≤ i ∧ i < 6) :
    ∃ m', zD d 269 [vr 37, vi b, vi i] S = some (.inl (some (vi (qsb (zm S (zm S 8 b + 2)) i (zm S (zm S 8 b) 9 * (zm S 52 b * zm S 51 b)).toNat))), qW S m') ∧ qFly (zm S) m' ∧ qHB1 (qW S m') ∧ qLd (qW S m') b := by
  obtain ⟨e, rfl, he⟩ := qd h
  obtain ⟨m', r, fl, g, ld⟩ := r_pagesOf e S b (by omega) hH hb
  have hK := hH.1.1.1
  have f := qFly_x fl
  have kb := qFx_b hH.1 f hb
  have hbn : b < 4 := by have := hH.1.2.2.1.2; omega
  have ls := q_lies g (by show 0 ≤ b ∧ b < m' 37 16; rw [kb.2.1]; exact hb) ld
  rw [show zm (qW S m') 8 = zm S 8 from kb.1 8 (by omega), show zm (qW S m') 51 = zm S 51 from kb.1 51 (by omega), show zm (qW S m') 52 = zm S 52 from kb.1 52 (by omega), show zm (qW S m') (zm S 8 b) = zm S (zm S 8 b) from kb.2.2.1, show zm (qW S m') (zm S 8 b + 2) = zm S (zm S 8 b + 2) from kb.2.2.2.2] at ls
  refine ⟨m', ?_, fl, g, ld⟩
  have lp := r_dotsLoop e (qW S m') b i _ _ _ _ (by omega) hK g.1.1.2.1 ⟨hb.1, hbn⟩ hi ls (zm S (zm S 8 b) 9).toNat 0 vu (by have := ls.2.2.1.1; omega)
  rw [show ((0 : Nat) : Int) * (zm S 52 b * zm S 51 b) = 0 by rw [Int.natCast_zero, Int.zero_mul]] at lp
  have lp : zF_269 e 12 [vr 37, vi b, vi i, vi 0, vi (zm S (zm S 8 b) 9), vi 0, vu] [] (qW S m') = _ := lp
  simp (config := { maxSteps := 2000000 }) (disch := first | omega | (simp only [K_37 hK, qb_in, qkW, qmW, qnW, true_and, and_true, or_self, true_or, or_true, and_self]; done) | (simp only [K_37 hK, qb_in, qkW, qmW, qnW, true_and, and_true, or_self, true_or, or_true, and_self]; omega)) only [zD_269, b269_0, b269_7, b269_19, b269_37, b269_40, b269_54, b269_66, b269_78, b269_84, qcall_l, qcall_r, qretn_l, qJ_s, qJ_n, qV0, qEx, ↓qif0, ↓zchk_pos, ↓reduceIte, qput, qWW, qmW, qkW, qnW, K_37 hK, r, lp]
theorem r_allDots (d : Nat) (S : zS) (b : Int) (h : 13 ≤ d) (hH : qHB1 S) (hb : 0 ≤ b ∧ b < zm S 37 16) :
    ∃ m', zD d 270 [vr 37, vi b] S = some (.inl (some (vi (zm S (zm S 8 b) 12))), qW S m') ∧ qFly (zm S) m' ∧ qHB1 (qW S m') := by
  obtain ⟨e, rfl, he⟩ := qd h
  have hK := hH.1.1.1
  have hY := hH.1.2.2
  obtain ⟨-, -, wr, tr, -⟩ := qBs_x (hY.2.1 b hb.1 hb.2)
  obtain ⟨J, gL, gE, gA, gU, gM, P, ll, v0, -⟩ := hH.2 b hb.1 hb.2
  obtain ⟨Pr, x9, zk⟩ := qB0_P v0 wr.1 tr
  obtain ⟨cb1, cb2, cb3, cb4, cb5, cb6⟩ := v0.2.2
  obtain ⟨-, -, d1, d2⟩ := cb1
  obtain ⟨f, hf⟩ : ∃ f, zm S (zm S 8 b + 2) = f := ⟨_, rfl⟩
  obtain ⟨n, hn⟩ : ∃ n, (P * (zm S 52 b * zm S 51 b)).toNat = n := ⟨_, rfl⟩
  rw [hf] at d1 d2
  obtain ⟨-, -, q3, q4, -⟩ := qmp_r tr
  have asc : P * (zm S 52 b * zm S 51 b) = P * zm S 52 b * zm S 51 b := (Int.mul_assoc _ _ _).symm
  have h1 : P * zm S 52 b ≤ qmp (zm S 52 b) * zm S 52 b := Int.mul_le_mul_of_nonneg_right Pr.2.1 (by omega)
  have h2 : P * zm S 52 b * zm S 51 b ≤ qbl (zm S 51 b) (zm S 52 b) := Int.mul_le_mul_of_nonneg_right h1 (by omega)
  have h3 : 0 ≤ P * zm S 52 b * zm S 51 b := Int.mul_nonneg (Int.mul_nonneg Pr.1 (by omega)) (by omega)
  have bl := qbl_r tr wr
  -- all dots are those of the pages
  have dots : zm S (zm S 8 b) 12 = qsb f 0 n + qsb f 1 n + qsb f 2 n + qsb f 3 n + qsb f 4 n + qsb f 5 n := by
    rw [d1, ← qsum_6 f d2 n, show (qbl (zm S 51 b) (zm S 52 b)).toNat = n + ((qbl (zm S 51 b) (zm S 52 b)).toNat - n) by omega]
    refine qsum_z f n _ fun i i1 i2 => ?_
    -- a row behind the last page
    have k1 := Int.mul_ediv_add_emod i (zm S 51 b)
    have k2 := Int.emod_nonneg i (show zm S 51 b ≠ 0 by omega)
    have k3 := Int.emod_lt_of_pos i (show 0 < zm S 51 b by omega)
    have k4 : zm S 51 b * (i / zm S 51 b) = i / zm S 51 b * zm S 51 b := Int.mul_comm _ _
    have rr : P * zm S 52 b ≤ i / zm S 51 b := by
      by_cases q : P * zm S 52 b ≤ i / zm S 51 b
      · exact q
      · have := qixm (w := zm S 51 b) (a := i / zm S 51 b) (b := P * zm S 52 b) (by omega) (by omega)
        omega
    have hlt : (P - 1) * zm S 52 b + ll < i / zm S 51 b := by
      have e2 : (P - 1) * zm S 52 b = P * zm S 52 b - zm S 52 b := by rw [Int.sub_mul, Int.one_mul]
      rcases cb3 with ⟨_, q2, q3⟩ | ⟨q1, q2, q3, q4⟩ <;> omega
    have z := cb6 (i / zm S 51 b) (i % zm S 51 b) (Int.ediv_nonneg (by omega) (by omega)) hlt k2 k3
    rw [hf, show i / zm S 51 b * zm S 51 b + i % zm S 51 b = i by omega] at z
    exact z
  have one : ∀ (i : Int) (m : Int → Int → Int), 0 ≤ i → i < 6 → qFly (zm S) m → qHB1 (qW S m) → ∃ m', zD e 269 [vr 37, vi b, vi i] (qW S m) = some (.inl (some (vi (qsb f i n))), qW S m') ∧ qFly (zm S) m' ∧ qHB1 (qW S m') := fun i m i1 i2 fm gm => by
    have kb := qFx_b hH.1 (qFly_x fm) hb
    obtain ⟨m', r, fl, g, -⟩ := r_dotsOf e (qW S m) b i (by omega) gm (by show 0 ≤ b ∧ b < m 37 16; rw [kb.2.1]; exact hb) ⟨i1, i2⟩
    rw [show zm (qW S m) 8 = zm S 8 from kb.1 8 (by omega), show zm (qW S m) 51 = zm S 51 from kb.1 51 (by omega), show zm (qW S m) 52 = zm S 52 from kb.1 52 (by omega), show zm (qW S m) (zm S 8 b) = zm S (zm S 8 b) from kb.2.2.1, show zm (qW S m) (zm S 8 b + 2) = zm S (zm S 8 b + 2) from kb.2.2.2.2, x9, hf, hn] at r
    exact ⟨m', r, qFly_t fm fl, g⟩
  have n14 : (n : Int) ≤ 14520 := by omega
  have s0 := qsb_r f 0 n
  have s1 := qsb_r f 1 n
  have s2 := qsb_r f 2 n
  have s3 := qsb_r f 3 n
  have s4 := qsb_r f 4 n
  have s5 := qsb_r f 5 n
  obtain ⟨m0, r0, f0, g0⟩ := one 0 (zm S) (by decide) (by decide) (qFly_r _) hH
  obtain ⟨m1, r1, f1, g1⟩ := one 1 m0 (by decide) (by decide) f0 g0
  obtain ⟨m2, r2, f2, g2⟩ := one 2 m1 (by decide) (by decide) f1 g1
  obtain ⟨m3, r3, f3, g3⟩ := one 3 m2 (by decide) (by decide) f2 g2
  obtain ⟨m4, r4, f4, g4⟩ := one 4 m3 (by decide) (by decide) f3 g3
  obtain ⟨m5, r5, f5, g5⟩ := one 5 m4 (by decide) (by decide) f4 g4
  rw [qWS] at r0
  refine ⟨m5, ?_, f5, g5⟩
  rw [dots]
  generalize qsb f 0 n = a0 at *
  generalize qsb f 1 n = a1 at *
  generalize qsb f 2 n = a2 at *
  generalize qsb f 3 n = a3 at *
  generalize qsb f 4 n = a4 at *
  generalize qsb f 5 n = a5 at *
  have z0 : z32 (0 + a0) = a0 := by rw [q32 (by omega)]; omega
  have z1 : z32 (a0 + a1) = a0 + a1 := q32 (by omega)
  have z2 : z32 (a0 + a1 + a2) = a0 + a1 + a2 := q32 (by omega)
  have z3 : z32 (a0 + a1 + a2 + a3) = a0 + a1 + a2 + a3 := q32 (by omega)
  have z4 : z32 (a0 + a1 + a2 + a3 + a4) = a0 + a1 + a2 + a3 + a4 := q32 (by omega)
  have z5 : z32 (a0 + a1 + a2 + a3 + a4 + a5) = a0 + a1 + a2 + a3 + a4 + a5 := q32 (by omega)
  simp (config := { maxSteps := 2000000 }) (disch := first | omega | (simp only [K_37 hK, qb_in, qkW, qmW, qnW, true_and, and_true, or_self, true_or, or_true, and_self]; done) | (simp only [K_37 hK, qb_in, qkW, qmW, qnW, true_and, and_true, or_self, true_or, or_true, and_self]; omega)) only [zD_270, b270_0, b270_10, b270_17, b270_25, qcall_l, qcall_r, qretn_l, qJ_s, qJ_n, qV0, qEx, ↓qif0, ↓zchk_pos, ↓reduceIte, qput, qWW, qmW, qkW, qnW, b270_4, K_37 hK, r0, r1, r2, r3, r4, r5, z0, z1, z2, z3, z4, z5, show z32 (0 + 1) = 1 from rfl, show z32 (1 + 1) = 2 from rfl, show z32 (2 + 1) = 3 from rfl, show z32 (3 + 1) = 4 from rfl, show z32 (4 + 1) = 5 from rfl, show z32 (5 + 1) = 6 from rfl, Int.reduceLT]
