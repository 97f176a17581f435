/-! What is known of copies; questions for books and words. -/
/-- how many copies a book has -/
def qbn (m : Int → Int → Int) (b : Int) : Nat → Int
  | 0 => 0
  | k + 1 => qbn m b k + if m 82 k = b then 1 else 0
theorem qbn_r (m : Int → Int → Int) (b : Int) : ∀ k : Nat, 0 ≤ qbn m b k ∧ qbn m b k ≤ k := by
  intro k
  induction k with
  | zero => exact ⟨Int.le_refl _, Int.le_refl _⟩
  | succ k ih =>
    rw [qbn]
    split <;> omega
theorem qbn_e {m m' : Int → Int → Int} (h : m' 82 = m 82) (b : Int) : ∀ k, qbn m' b k = qbn m b k := by
  intro k
  induction k with
  | zero => rfl
  | succ k ih => rw [qbn, qbn, ih, h]
/-- how many pages are hurt -/
def qhp (m : Int → Int → Int) (k : Int) : Nat → Int
  | 0 => 0
  | p + 1 => qhp m k p + if m 85 (160 * k + p) = 0 then 0 else 1
theorem qhp_r (m : Int → Int → Int) (k : Int) : ∀ p : Nat, 0 ≤ qhp m k p ∧ qhp m k p ≤ p := by
  intro p
  induction p with
  | zero => exact ⟨Int.le_refl _, Int.le_refl _⟩
  | succ p ih =>
    rw [qhp]
    split <;> omega
theorem qhp_e {m m' : Int → Int → Int} (k : Int) : ∀ n : Nat, (∀ p : Nat, p < n → m' 85 (160 * k + p) = m 85 (160 * k + p)) → qhp m' k n = qhp m k n := by
  intro n
  induction n with
  | zero => intro _; rfl
  | succ n ih =>
    intro h
    rw [qhp, qhp, ih fun p hp => h p (by omega), h n (by omega)]
/-- how many sheets all copies take -/
def qsh (m : Int → Int → Int) (b : Int) : Int := if m 53 b = 0 then m (m 8 b) 9 else (m (m 8 b) 9 + 1) / 2
def qst_ (m : Int → Int → Int) : Nat → Int
  | 0 => 0
  | k + 1 => qst_ m k + qsh m (m 82 k)
/-- one copy of both -/
def qCq (S : zS) (k b x y w t P : Int) : Prop :=
  (zm S 82 k = b ∧ zm S 8 b = x ∧ zm S 13 k = y ∧ zm S 51 b = w ∧ zm S 52 b = t ∧ zm S x 9 = P) ∧ (0 ≤ b ∧ b < zm S 37 16 ∧ 0 < zm S 54 b ∧ 0 < P ∧ P ≤ 121 ∧ 0 < t * w) ∧
  (zk S y = (24, 0) ∧ zk S (y + 1) = (3, P * (t * w)) ∧ zk S (y + 2) = (4, P) ∧ 103 ≤ y ∧ y + 3 ≤ zn S) ∧ (zm S y 2 = y + 1 ∧ zm S y 3 = y + 2 ∧ zm S y 4 = qhp (zm S) k 160) ∧
  (∀ p, 0 ≤ p → p < P → zm S (y + 2) p = zm S 85 (160 * k + p)) ∧ (∀ p, 0 ≤ p → p < 160 → (0 ≤ zm S 85 (160 * k + p) ∧ zm S 85 (160 * k + p) ≤ 1) ∧ (p < 6 → 0 ≤ zm S 83 (6 * k + p) ∧ zm S 83 (6 * k + p) ≤ 100000)) ∧ (∀ p, P ≤ p → p < 160 → zm S 85 (160 * k + p) = 0) ∧
  (∀ i : Nat, (i : Int) < P * (t * w) → zm S (y + 1) i = if zm S 85 (160 * k + i / (t * w)) = 0 then qfwx (zm S (x + 2)) (fun q => zm S 83 (6 * k + q)) 6 i else 0) ∧
  (zm S 84 k = 0 → ∀ q : Int, 0 ≤ q → q < 6 → qsb (zm S (x + 2)) q (P * (t * w)).toNat ≤ zm S 83 (6 * k + q))
def qCp (S : zS) (k : Int) : Prop := ∃ b x y w t P, qCq S k b x y w t P
/-- all copies -/
def qYC (S : zS) : Prop := (∀ b, 0 ≤ b → b < zm S 37 16 → zm S (zm S 8 b) 13 = qbn (zm S) b (zm S 37 65).toNat) ∧ (∀ k, 0 ≤ k → k < zm S 37 65 → qCp S k) ∧ zm S 37 73 = qst_ (zm S) (zm S 37 65).toNat ∧ (∀ i, 160 * zm S 37 65 ≤ i → i < 3200 → zm S 85 i = 0) ∧ ∀ k, zm S 37 65 ≤ k → k < 20 → zm S 88 k = 0
/-- what lies felt -/
def qFc (S : zS) : Prop := (-1 ≤ zm S 37 75 ∧ zm S 37 75 < zm S 37 65) ∧ ∀ k b x w t P, zm S 37 75 = k → 0 ≤ k → zm S 82 k = b → zm S 8 b = x → zm S 51 b = w → zm S 52 b = t → zm S x 9 = P → ∀ p l c : Int, 0 ≤ p → p < P → 0 ≤ l → l < t → 0 ≤ c → c < w → zm S 89 (40 * (p * t + l) + c) = qfwx (zm S (x + 2)) (fun q => zm S 83 (6 * k + q)) 6 ((p * t + l) * w + c).toNat
/-- all that is known of a house -/
def qHC (S : zS) : Prop := qHB S ∧ qYC S ∧ qFc S
theorem qst_e {m m' : Int → Int → Int} : ∀ n : Nat, (∀ k : Nat, k < n → qsh m' (m' 82 k) = qsh m (m 82 k)) → qst_ m' n = qst_ m n := by
  intro n
  induction n with
  | zero => intro _; rfl
  | succ n ih =>
    intro h
    rw [qst_, qst_, ih fun k hk => h k (by omega), h n (by omega)]
theorem qfwx_c {f r g u : Int → Int} (i : Nat) (hf : ∀ k : Int, 0 ≤ k → k ≤ i → g k = f k) : ∀ j : Nat, (∀ q : Int, 0 ≤ q → q < j → u q = r q) → qfwx g u j i = qfwx f r j i := by
  have hs : ∀ (q : Int) (n : Nat), n ≤ i → qsb g q n = qsb f q n := fun q n => by
    induction n with
    | zero => intro _; rfl
    | succ n ih =>
      intro hn
      rw [qsb, qsb, ih (by omega), hf n (by omega) (by omega)]
  intro j
  induction j with
  | zero => intro _; rfl
  | succ j ih =>
    intro h
    rw [qfwx, qfwx, ih fun q q1 q2 => h q q1 (by omega), hf i (by omega) (Int.le_refl _), hs j i (Nat.le_refl _), h j (by omega) (by omega)]
theorem qCq_w {S S' : zS} {k b x y w t P : Int} (h : qCq S k b x y w t P) (g : qKp S S') (h82 : zm S' 82 k = zm S 82 k) (h8 : zm S' 8 b = zm S 8 b) (h13 : zm S' 13 k = zm S 13 k) (h51 : zm S' 51 b = zm S 51 b) (h52 : zm S' 52 b = zm S 52 b) (h54 : zm S' 54 b = zm S 54 b) (h16 : zm S 37 16 ≤ zm S' 37 16) (h85 : ∀ p, 0 ≤ p → p < 160 → zm S' 85 (160 * k + p) = zm S 85 (160 * k + p)) (h83 : ∀ q, 0 ≤ q → q < 6 → zm S' 83 (6 * k + q) = zm S 83 (6 * k + q))
    (hx9 : zm S' x 9 = zm S x 9) (hx2 : zm S' (x + 2) = zm S (x + 2)) (hy : ∀ j, j = 2 ∨ j = 3 ∨ j = 4 → zm S' y j = zm S y j) (hy1 : zm S' (y + 1) = zm S (y + 1)) (hy2 : zm S' (y + 2) = zm S (y + 2)) (h84 : zm S' 84 k = zm S 84 k) : qCq S' k b x y w t P := by
  obtain ⟨⟨a1, a2, a3, a4, a5, a6⟩, ⟨b1, b2, b3, b4, b5, b6⟩, ⟨c1, c2, c3, c4, c5⟩, ⟨d1, d2, d3⟩, e1, e2, e3, e4, e5⟩ := h
  obtain ⟨g1, g2⟩ := g
  refine ⟨⟨h82.trans a1, h8.trans a2, h13.trans a3, h51.trans a4, h52.trans a5, hx9.trans a6⟩, ⟨b1, Int.lt_of_lt_of_le b2 h16, by rw [h54]; exact b3, b4, b5, b6⟩, ⟨by rw [g2 _ (by omega)]; exact c1, by rw [g2 _ (by omega)]; exact c2, by rw [g2 _ (by omega)]; exact c3, c4, by omega⟩, ⟨by rw [hy 2 (Or.inl rfl)]; exact d1, by rw [hy 3 (Or.inr (Or.inl rfl))]; exact d2, by rw [hy 4 (Or.inr (Or.inr rfl)), d3]; exact (qhp_e k 160 fun p hp => h85 p (Int.natCast_nonneg p) (Int.ofNat_lt.mpr hp)).symm⟩, fun p p1 p2 => ?_, fun p p1 p2 => ⟨by rw [h85 p p1 p2]; exact (e2 p p1 p2).1, fun p3 => by rw [h83 p p1 p3]; exact (e2 p p1 p2).2 p3⟩, fun p p1 p2 => ?_, fun i hi => ?_, fun z q q1 q2 => by rw [hx2, h83 q q1 q2]; exact e5 (h84.symm.trans z) q q1 q2⟩
  · rw [hy2, e1 p p1 p2, h85 p p1 (by omega)]
  · rw [h85 p (by omega) p2]
    exact e3 p p1 p2
  · have q1 : 0 ≤ (i : Int) / (t * w) := Int.ediv_nonneg (Int.natCast_nonneg i) (Int.le_of_lt b6)
    have q2 : (i : Int) / (t * w) < P := Int.ediv_lt_of_lt_mul b6 hi
    rw [hy1, e4 i hi, h85 _ q1 (by omega), hx2, qfwx_c (f := zm S (x + 2)) (g := zm S (x + 2)) (r := fun q => zm S 83 (6 * k + q)) (u := fun q => zm S' 83 (6 * k + q)) i (fun _ _ _ => rfl) 6 fun q q1 q2 => h83 q q1 q2]
/-- copies are kept, whatever of the scratch is written -/
theorem qYC_x {S : zS} {m : Int → Int → Int} (hH : qH0 S) (hB : ∀ b, 0 ≤ b → b < zm S 37 16 → qBB S b) (h : qYC S) (hf : qFx S m) : qYC (qW S m) := by
  obtain ⟨-, ⟨-, hC, -, -⟩, ⟨-, -, -, hYp, -⟩, hY⟩ := id hH
  have lo := fun z hz hs h2 => qFx_lo hC hf z hz hs h2
  have l3 := fun i hs h2 => qFx_37 hC hf i hs h2
  have e65 : m 37 65 = zm S 37 65 := l3 65 (by unfold qscf; omega) (by unfold qsxf; omega)
  have e73 : m 37 73 = zm S 37 73 := l3 73 (by unfold qscf; omega) (by unfold qsxf; omega)
  have e16 : m 37 16 = zm S 37 16 := l3 16 (by unfold qscf; omega) (by unfold qsxf; omega)
  have row : ∀ z, z = 8 ∨ z = 13 ∨ (39 ≤ z ∧ z ≤ 63) ∨ (81 ≤ z ∧ z ≤ 88) → m z = zm S z := fun z hz => lo z (by omega) (fun i => by unfold qscf; omega) (fun i => by unfold qsxf; omega)
  have hx : ∀ b, 0 ≤ b → b < zm S 37 16 → m (zm S 8 b) = zm S (zm S 8 b) ∧ m (zm S 8 b + 2) = zm S (zm S 8 b + 2) := fun b b1 b2 => by
    have := qFx_b (qH1_0 hH) hf ⟨b1, b2⟩
    exact ⟨this.2.2.1, this.2.2.2.2⟩
  obtain ⟨h1, h2, h3, h4, h5⟩ := h
  refine ⟨fun b b1 b2 => ?_, fun k k1 k2 => ?_, ?_, fun i i1 i2 => ?_, fun k k1 k2 => ?_⟩
  · have b2 : b < m 37 16 := b2
    rw [e16] at b2
    show m (m 8 b) 13 = qbn m b (m 37 65).toNat
    rw [row 8 (by omega), (hx b b1 b2).1, e65, qbn_e (row 82 (by omega))]
    exact h1 b b1 b2
  · have k2 : k < m 37 65 := k2
    rw [e65] at k2
    obtain ⟨b, x, y, w, t, P, q⟩ := h2 k k1 k2
    have q0 := q
    obtain ⟨⟨a1, a2, a3, a4, a5, a6⟩, ⟨b1, b2, b3, b4, b5, b6⟩, ⟨c0, c1, c2, c3, c4⟩, -⟩ := q
    have hxb := hx b b1 b2
    rw [a2] at hxb
    have ky : ∀ z, 103 ≤ z → zk S z ≠ (1, 17) → zk S z ≠ (28, 0) → zk S z ≠ (0, 10) → m z = zm S z := fun z hz k1 k2 k3 => funext fun i => hf z i (qsx_h hz (qns_k hC hz k1 k2 k3))
    have y0 := ky y c3 (by rw [c0]; decide) (by rw [c0]; decide) (by rw [c0]; decide)
    exact ⟨b, x, y, w, t, P, qCq_w (S' := qW S m) q0 (qKp_w S m) (by show m 82 k = _; rw [row 82 (by omega)]) (by show m 8 b = _; rw [row 8 (by omega)]) (by show m 13 k = _; rw [row 13 (by omega)]) (by show m 51 b = _; rw [row 51 (by omega)]) (by show m 52 b = _; rw [row 52 (by omega)]) (by show m 54 b = _; rw [row 54 (by omega)]) (Int.le_of_eq e16.symm) (fun p _ _ => by show m 85 _ = _; rw [row 85 (by omega)]) (fun q _ _ => by show m 83 _ = _; rw [row 83 (by omega)]) (by show m x 9 = _; rw [hxb.1]) hxb.2 (fun j _ => by show m y j = _; rw [y0]) (ky (y + 1) (by omega) (by rw [c1]; simp) (by rw [c1]; simp) (by rw [c1]; simp)) (ky (y + 2) (by omega) (by rw [c2]; simp) (by rw [c2]; simp) (by rw [c2]; simp)) (by show m 84 k = _; rw [row 84 (by omega)])⟩
  · show m 37 73 = qst_ m (m 37 65).toNat
    rw [e73, e65, h3]
    refine (qst_e _ fun k hk => ?_).symm
    have hb := (hYp.2.1 k (Int.natCast_nonneg k) (by have := hYp.1.2; omega)).2.2.1
    unfold qsh
    rw [row 82 (by omega), row 53 (by omega), row 8 (by omega), (hx _ hb.1 hb.2).1]
  · have i1 : 160 * m 37 65 ≤ i := i1
    rw [e65] at i1
    show m 85 i = 0
    rw [row 85 (by omega)]
    exact h4 i i1 i2
  · have k1 : m 37 65 ≤ k := k1
    rw [e65] at k1
    show m 88 k = 0
    rw [row 88 (by omega)]
    exact h5 k k1 k2
theorem qFc_x {S : zS} {m : Int → Int → Int} (hH : qH0 S) (hY : qYC S) (h : qFc S) (hf : qFx S m) (h89 : m 89 = zm S 89) (h75 : m 37 75 = zm S 37 75) : qFc (qW S m) := by
  have hC := hH.2.1.2.1
  have row : ∀ z, z = 8 ∨ z = 13 ∨ (39 ≤ z ∧ z ≤ 63) ∨ (81 ≤ z ∧ z ≤ 88) → m z = zm S z := fun z hz => qFx_lo hC hf z (by omega) (fun i => by unfold qscf; omega) (fun i => by unfold qsxf; omega)
  have e65 : m 37 65 = zm S 37 65 := qFx_37 hC hf 65 (by unfold qscf; omega) (by unfold qsxf; omega)
  obtain ⟨h1, h2⟩ := h
  refine ⟨by show -1 ≤ m 37 75 ∧ m 37 75 < m 37 65; rw [h75, e65]; exact h1, fun k b x w t P k1 k2 k3 k4 k5 k6 k7 p l c p1 p2 l1 l2 c1 c2 => ?_⟩
  have k1 : m 37 75 = k := k1
  have k3 : m 82 k = b := k3
  have k4 : m 8 b = x := k4
  have k5 : m 51 b = w := k5
  have k6 : m 52 b = t := k6
  have k7 : m x 9 = P := k7
  rw [h75] at k1
  rw [row 82 (by omega)] at k3
  rw [row 8 (by omega)] at k4
  rw [row 51 (by omega)] at k5
  rw [row 52 (by omega)] at k6
  obtain ⟨b', x', y', w', t', P', ⟨a1, a2, -⟩, ⟨b1, b2, -⟩, -⟩ := hY.2.1 k k2 (by omega)
  have hb : b' = b := a1.symm.trans k3
  rw [hb] at b1 b2
  have hx := qFx_b (qH1_0 hH) hf ⟨b1, b2⟩
  rw [k4] at hx
  rw [hx.2.2.1] at k7
  show m 89 _ = qfwx (m (x + 2)) (fun q => m 83 (6 * k + q)) 6 _
  rw [h89, hx.2.2.2.2, row 83 (by omega)]
  exact h2 k b x w t P k1 k2 k3 k4 k5 k6 k7 p l c p1 p2 l1 l2 c1 c2
theorem qHC_z {S : zS} {m : Int → Int → Int} (h : qHC S) (hf : qFzz S m) (hB : qHB (qW S m)) : qHC (qW S m) := ⟨hB, qYC_x h.1.1 h.1.2 h.2.1 hf.1, qFc_x h.1.1 h.2.1 h.2.2 hf.1 hf.2.1 hf.2.2⟩
theorem qHC_f {S : zS} {m : Int → Int → Int} (h : qHC S) (hf : qFq S m) : qHC (qW S m) := qHC_z h (qFzz_q h.1.1.2.1.2.1 hf) (qHB_f h.1 hf)
theorem r_copiesOf (d : Nat) (S : zS) (b : Int) (h : 1 ≤ d) (hK : qK S) (hP : qP (zm S)) (hn : 0 ≤ zm S 37 65 ∧ zm S 37 65 ≤ 20) : zD d 254 [vr 37, vi b] S = some (.inl (some (vi (qbn (zm S) b (zm S 37 65).toNat))), S) := by
  obtain ⟨e, rfl, -⟩ := qd h
  have p66 := P_37_66 hP
  have lp : ∀ (g i : Nat), i + g = (zm S 37 65).toNat → zF_254 e 4 [vr 37, vi b, vi (qbn (zm S) b i), vi (i : Int)] [] S = some (.inl (some (vi (qbn (zm S) b (zm S 37 65).toNat))), S) := by
    intro g
    induction g with
    | zero =>
      intro i hi
      obtain rfl : i = (zm S 37 65).toNat := by omega
      rw [b254_4]
      simp (config := { maxSteps := 2000000 }) (disch := first | omega | (simp only [K_37 hK, qb_in, qkW, qmW, qnW, true_and, and_true, or_self, true_or, or_true, and_self]; done) | (simp only [K_37 hK, qb_in, qkW, qmW, qnW, true_and, and_true, or_self, true_or, or_true, and_self]; omega)) only [b254_0, b254_12, b254_23, b254_27, b254_28, b254_36, qcall_l, qcall_r, qretn_l, qJ_s, qJ_n, qV0, qEx, ↓qif0, ↓zchk_pos, ↓reduceIte, qput, qWW, qmW, qkW, qnW, K_37 hK, if_neg (show ¬ (((zm S 37 65).toNat : Nat) : Int) < zm S 37 65 by omega)]
    | succ g ih =>
      intro i hi
      have hr := qbn_r (zm S) b i
      have hlt : (i : Int) < zm S 37 65 := by omega
      have r1 := ih (i + 1) (by omega)
      rw [qbn] at r1
      have z0 : z32 (qbn (zm S) b i + 0) = qbn (zm S) b i := by rw [q32 (by omega), Int.add_zero]
      have z1 : z32 (qbn (zm S) b i + 1) = qbn (zm S) b i + 1 := q32 (by omega)
      rw [b254_4]
      by_cases c : zm S 82 i = b
      · rw [if_pos c] at r1
        simp (config := { maxSteps := 2000000 }) (disch := first | omega | (simp only [K_37 hK, K_82 hK, p66, qb_in, qkW, qmW, qnW, true_and, and_true, or_self, true_or, or_true, and_self]; done) | (simp only [K_37 hK, K_82 hK, p66, qb_in, qkW, qmW, qnW, true_and, and_true, or_self, true_or, or_true, and_self]; omega)) only [b254_0, b254_12, b254_23, b254_27, b254_28, b254_36, qcall_l, qcall_r, qretn_l, qJ_s, qJ_n, qV0, qEx, ↓qif0, ↓zchk_pos, ↓reduceIte, qput, qWW, qmW, qkW, qnW, K_37 hK, K_82 hK, p66, if_pos hlt, if_pos c, z1, z32_s i (by omega)]
        exact r1
      · rw [if_neg c, Int.add_zero] at r1
        simp (config := { maxSteps := 2000000 }) (disch := first | omega | (simp only [K_37 hK, K_82 hK, p66, qb_in, qkW, qmW, qnW, true_and, and_true, or_self, true_or, or_true, and_self]; done) | (simp only [K_37 hK, K_82 hK, p66, qb_in, qkW, qmW, qnW, true_and, and_true, or_self, true_or, or_true, and_self]; omega)) only [b254_0, b254_12, b254_23, b254_27, b254_28, b254_36, qcall_l, qcall_r, qretn_l, qJ_s, qJ_n, qV0, qEx, ↓qif0, ↓zchk_pos, ↓reduceIte, qput, qWW, qmW, qkW, qnW, K_37 hK, K_82 hK, p66, if_pos hlt, if_neg c, z0, z32_s i (by omega)]
        exact r1
  have r1 := lp (zm S 37 65).toNat 0 (by omega)
  simp (config := { maxSteps := 2000000 }) (disch := first | omega | (simp only [qb_in, qkW, qmW, qnW, true_and, and_true, or_self, true_or, or_true, and_self]; done) | (simp only [qb_in, qkW, qmW, qnW, true_and, and_true, or_self, true_or, or_true, and_self]; omega)) only [zD_254, b254_0, b254_12, b254_23, b254_27, b254_28, b254_36, qcall_l, qcall_r, qretn_l, qJ_s, qJ_n, qV0, qEx, ↓qif0, ↓zchk_pos, ↓reduceIte, qput, qWW, qmW, qkW, qnW]
  exact r1
