/-! The text on the tape is added to a book: the class. -/
theorem qPw_4 {S : zS} (hR : qRD S) (W : List Int) (dg : Int) (hW : 0 < W.length) : (qpl (qPw (zm S) W dg) W.length W.length).length ≤ 4 := by
  have base : (qpl 0 (W.length : Int) W.length).length ≤ 4 := by
    rw [qpl_z W.length hW]
    show 1 ≤ 4
    decide
  unfold qPw
  refine qfp_p (P := fun v => (qpl v (W.length : Int) W.length).length ≤ 4) _ _ _ (Int.natCast_nonneg _) _ _ _ _ _ _ _ base fun i i1 i2 hm => ?_
  have h := (hR.2.2.1 i i1 i2).2.2.2.2
  have e : zm S 47 i = (W.length : Int) := hm.1
  rw [e, Int.toNat_natCast] at h
  exact h
/-- what is to be added, and to what -/
def qAdH (S : zS) (b x c a g w t Nc : Int) (T : Int → Int → Int) (J0 n : Nat) (t0 : Int → Int) (N : Int) (fp : Nat → Int) (fW : Nat → List Int) (fd fs fb fm : Nat → Int) (pp : Nat → Nat) (gL gE : Nat → List Int) (gA gU gM : Nat → Int) : Prop :=
  ((0 ≤ b ∧ b < zm S 37 16) ∧ zm S 8 b = x ∧ zm S 49 b = c ∧ zm S 6 c = a ∧ zm S 50 b = g ∧ zm S 51 b = w ∧ zm S 52 b = t ∧ zm S 39 c = Nc ∧ qTm (zm S) c = T) ∧ (zm S 54 b = (J0 : Int) ∧ J0 + n ≤ 80) ∧ (zm S 38 = t0 ∧ zm S 37 2 = N) ∧ (qTx t0 N n fp fW fd fs fb fm ∧ fp 0 = 0) ∧
  (∀ i : Nat, i < n → qPw (zm S) (fW i) (fd i) = (pp i : Int) ∧ (pp i = 0 ∨ qPk (pp i) (fW i).length) ∧ (qpl (pp i : Int) (fW i).length (fW i).length).length ≤ 4) ∧
  (∀ i : Nat, i < n → gL (J0 + i) = qwL T Nc g (fW i) (pp i) (fd i) (fs i) (fb i) (qmc (fm i)) ∧ gE (J0 + i) = qwE T Nc g (fW i) (pp i) (fd i) (fs i) (fb i) ∧ gU (J0 + i) = qwU T Nc g (fW i) (pp i) (fd i) ∧ gM (J0 + i) = qwM T Nc g (fW i) (pp i) (fd i) ∧ gA (J0 + i) = qah_ t0 (fp i) i) ∧
  (∀ j : Nat, j < J0 → qWo (gL j) (gE j) (gA j)) ∧ (0 < J0 → gA 0 = 1)
section
variable {S : zS} {b x c a g w t Nc : Int} {T : Int → Int → Int} {J0 n : Nat} {t0 : Int → Int} {N : Int} {fp : Nat → Int} {fW : Nat → List Int} {fd fs fb fm : Nat → Int} {pp : Nat → Nat} {gL gE : Nat → List Int} {gA gU gM : Nat → Int}
theorem qAd_pt (h : qAdH S b x c a g w t Nc T J0 n t0 N fp fW fd fs fb fm pp gL gE gA gU gM) (i : Nat) (hi : i < n) : 0 < i → qpt (t0 (fp i - 1)) := fun h0 => by
  obtain ⟨-, -, -, ⟨tx, -⟩, -⟩ := h
  cases i with
  | zero => omega
  | succ i => exact ((tx i (by omega)).2.1 hi).2
theorem qAd_o (hH : qHC S) (h : qAdH S b x c a g w t Nc T J0 n t0 N fp fW fd fs fb fm pp gL gE gA gU gM) : (∀ j, j < J0 + n → qWo (gL j) (gE j) (gA j)) ∧ (0 < J0 + n → gA 0 = 1) ∧ qTok T Nc ∧ 0 ≤ Nc := by
  have h0 := h
  obtain ⟨⟨hb, h8, h49, h6, h50, h51, h52, h39, hT⟩, -, -, ⟨tx, -⟩, hp, hg, ho, ha⟩ := h
  have hY := hH.1.1.2.2.2
  have hC := hH.1.1.2.1.2.1
  obtain ⟨-, ⟨-, -, c1, c2⟩, -⟩ := hY.2.1 b hb.1 hb.2
  rw [h49] at c1 c2
  obtain ⟨-, co, tk, -⟩ := qRC_1 hC c1 c2
  rw [h39] at co tk
  rw [hT] at tk
  refine ⟨fun j hj => ?_, fun hj => ?_, tk, co.2.2.2.1.1⟩
  · by_cases q : j < J0
    · exact ho j q
    · obtain ⟨i, rfl⟩ : ∃ i, j = J0 + i := ⟨j - J0, by omega⟩
      obtain ⟨g1, g2, -, -, g5⟩ := hg i (by omega)
      obtain ⟨p1, p2, p3⟩ := hp i (by omega)
      rw [g1, g2, g5]
      have := qbtw_r (t := t0) (p := fp i) (i := i) (qAd_pt h0 i (by omega))
      exact qWo_d (tx i (by omega)).2.2.2.1 co.2.2.2.1.1 tk p2 p3 (by omega)
  · by_cases q : 0 < J0
    · exact ha q
    · have := (hg 0 (by omega)).2.2.2.2
      rw [show J0 + 0 = 0 by omega] at this
      rw [this]
      rfl
/-- the class behind so many words -/
def qAdC (S Z : zS) (m : Int → Int → Int) (x a w t : Int) (J0 i : Nat) (fW : Nat → List Int) (fd fs fb fm : Nat → Int) (gL gE : Nat → List Int) (gA gU gM : Nat → Int) : Prop :=
  ((zn Z : Int) = zn S + 6 * (i : Int) ∧ zc Z = zc S + 6 * i ∧ zw Z = zw S + 49 * i) ∧ (∀ z : Int, z < zn S → zk Z z = zk S z) ∧ (∀ z : Int, z < zn S → z ≠ x → z ≠ x + 1 → z ≠ x + 2 → z ≠ a + 3 → z ≠ a + 4 → m z = zm S z) ∧ m (a + 3) 0 = a + 4 ∧
  ((∀ j, j ≠ 7 → j ≠ 9 → j ≠ 10 → j ≠ 11 → j ≠ 12 → j ≠ 16 → j ≠ 17 → m x j = zm S x j) ∧ m x 7 = (J0 : Int) + i) ∧ (∀ j : Int, m (x + 1) j = if (J0 : Int) ≤ j ∧ j < (J0 : Int) + i then (zn S : Int) + 6 * (j - J0) else zm S (x + 1) j) ∧
  (∀ k : Nat, k < i → qWb (qW Z m) ((zn S : Int) + 6 * k) ∧ qSq m ((zn S : Int) + 6 * k + 1) ((zn S : Int) + 6 * k + 2) (fW k) (fs k) (fd k) (fb k) (qmc (fm k)) ∧ qWp m ((zn S : Int) + 6 * k + 3) ((zn S : Int) + 6 * k + 4) ((zn S : Int) + 6 * k + 5) (gL (J0 + k)) (gM (J0 + k)) (gU (J0 + k)) (gE (J0 + k)) ∧ qBw m ((zn S : Int) + 6 * k) t (qZp w t gL gE gA (J0 + k)).1 (qZp w t gL gE gA (J0 + k)).2) ∧
  ∃ P l, qCB m x w t (qZn w t gL gE gA (J0 + i)) P l
/-- a word's objects -/
theorem s_addA (e : Nat) (Z : zS) (m : Int → Int → Int) (y : Int) (he : 2 ≤ e) (zy : (zn Z : Int) = y) (y0 : 0 < y) :
    ∃ S1, zD e 15 [vr y] (zalloc (qW Z m) 21 0 7) = some (.inl none, S1) ∧ ((zn S1 : Int) = y + 6 ∧ zc S1 = zc Z + 6 ∧ zw S1 = zw Z + 49) ∧ (zk S1 y = (21, 0) ∧ zk S1 (y + 1) = (28, 0) ∧ zk S1 (y + 2) = (0, 10) ∧ zk S1 (y + 3) = (31, 0) ∧ zk S1 (y + 4) = (0, 16) ∧ zk S1 (y + 5) = (0, 4)) ∧ (∀ z, z < y → zk S1 z = zk Z z) ∧ (∀ z, z < y → zm S1 z = m z) ∧ zm S1 y 0 = y + 1 ∧ zm S1 y 1 = y + 3 ∧ zm S1 (y + 1) 0 = y + 2 ∧ zm S1 (y + 3) 0 = y + 4 ∧ zm S1 (y + 3) 4 = y + 5 := by
  have e1 : zalloc (qW Z m) 21 0 7 = qW (zalloc Z 21 0 7) (qz m y) := by rw [qalW, zy]
  obtain ⟨S1, ri, n1, c1', w1', k1, o1, y10, y11, y12, y13, y14⟩ := s_wordInit e (qW (zalloc Z 21 0 7) (qz m y)) y (y + 1) he (qal_e Z 21 0 7 zy.symm) (by omega) (by rw [qnW, qal_n, zy])
  rw [← e1] at ri
  have c1'' : zc S1 = zc Z + 6 := by
    rw [c1']
    show zc Z + 1 + 5 = zc Z + 6
    omega
  have w1'' : zw S1 = zw Z + 49 := by
    rw [w1']
    show zw Z + 7 + 42 = zw Z + 49
    omega
  rw [show y + 1 + 2 = y + 3 by omega] at y11 y13 y14
  rw [show y + 1 + 1 = y + 2 by omega] at y12
  rw [show y + 1 + 3 = y + 4 by omega] at y13
  rw [show y + 1 + 4 = y + 5 by omega] at y14
  have K1 : ∀ z : Int, zk S1 z = if z = y + 5 then (0, 4) else if z = y + 4 then (0, 16) else if z = y + 3 then (31, 0) else if z = y + 2 then (0, 10) else if z = y + 1 then (28, 0) else if z = y then (21, 0) else zk Z z := fun z => by
    rw [k1, show y + 1 + 4 = y + 5 by omega, show y + 1 + 3 = y + 4 by omega, show y + 1 + 2 = y + 3 by omega, show y + 1 + 1 = y + 2 by omega, qkW, qal_k, zy]
  clear k1
  refine ⟨S1, ri, ⟨by omega, c1'', w1''⟩, ⟨?_, ?_, ?_, ?_, ?_, ?_⟩, fun z hz => ?_, fun z hz => ?_, y10, y11, y12, y13, y14⟩
  · rw [K1, if_neg (by omega), if_neg (by omega), if_neg (by omega), if_neg (by omega), if_neg (by omega), if_pos rfl]
  · rw [K1, if_neg (by omega), if_neg (by omega), if_neg (by omega), if_neg (by omega), if_pos rfl]
  · rw [K1, if_neg (by omega), if_neg (by omega), if_neg (by omega), if_pos rfl]
  · rw [K1, if_neg (by omega), if_neg (by omega), if_pos rfl]
  · rw [K1, if_neg (by omega), if_pos rfl]
  · rw [K1, if_pos rfl]
  · rw [K1, if_neg (by omega), if_neg (by omega), if_neg (by omega), if_neg (by omega), if_neg (by omega), if_neg (by omega)]
  · rw [o1 z (by omega) (by omega), qmW, qz_o _ (by omega)]
/-- a code's and a book's rows are no division's -/
theorem qAd_D {S : zS} {x a D w3 : Int} (d : qDb S D) (kx : zk S x = (20, 0)) (kx1 : zk S (x + 1) = (11, 80)) (kx2 : zk S (x + 2) = (3, w3)) (ka3 : zk S (a + 3) = (28, 0)) (ka4 : zk S (a + 4) = (0, 10)) (z : Int) (z1 : D ≤ z) (z2 : z ≤ D + 2) : z ≠ x ∧ z ≠ x + 1 ∧ z ≠ x + 2 ∧ z ≠ a + 3 ∧ z ≠ a + 4 := by
  obtain ⟨d0, d1, d2, -⟩ := d
  have f := qkne d0 ka3 (by decide)
  have hz : z = D ∨ z = D + 1 ∨ z = D + 2 := by omega
  rcases hz with rfl | rfl | rfl
  · exact ⟨qkne d0 kx (by decide), qkne d0 kx1 (by decide), qkne d0 kx2 (by simp), f, qkne d0 ka4 (by decide)⟩
  · exact ⟨qkne d1 kx (by decide), qkne d1 kx1 (by decide), qkne d1 kx2 (by simp), qkne d1 ka3 (by decide), by omega⟩
  · exact ⟨qkne d2 kx (by decide), qkne d2 kx1 (by decide), qkne d2 kx2 (by simp), qkne d2 ka3 (by decide), qkne d2 ka4 (by decide)⟩
theorem qAd_B {S S1 : zS} {m2 : Int → Int → Int} {x a w3 : Int} (hH : qHC S) (kx : zk S x = (20, 0)) (kx1 : zk S (x + 1) = (11, 80)) (kx2 : zk S (x + 2) = (3, w3)) (x103 : 103 ≤ x) (ka3 : zk S (a + 3) = (28, 0)) (ka4 : zk S (a + 4) = (0, 10)) (a103 : 103 ≤ a) (pa30 : zm S (a + 3) 0 = a + 4) (KS : ∀ z : Int, z < zn S → zk S1 z = zk S z) (nS : zn S ≤ zn S1) (M2S : ∀ z : Int, z < zn S → z ≠ x → z ≠ x + 1 → z ≠ x + 2 → z ≠ a + 3 → z ≠ a + 4 → m2 z = zm S z) (m30 : m2 (a + 3) 0 = a + 4) :
    (qK S1 ∧ qKp S S1) ∧ (∀ z, z < 103 → m2 z = zm S z) ∧ qP m2 ∧ qLt m2 ∧ qRC (qW S1 m2) ∧ qRD (qW S1 m2) := by
  obtain ⟨⟨hK, hP, hL, hn⟩, ⟨hRT, hC, hR, hk⟩, -⟩ := hH.1.1
  have kp : qKp S S1 := ⟨nS, KS⟩
  have lo2 : ∀ z, z < 103 → m2 z = zm S z := fun z hz => M2S z (by omega) (by omega) (by omega) (by omega) (by omega) (by omega)
  have ag : qAg S (qW S1 m2) (fun z j => z = x ∨ z = x + 1 ∨ z = x + 2 ∨ (z = a + 3 ∧ j ≠ 0) ∨ z = a + 4) := ⟨kp, fun z j hz he => by
    show m2 z j = zm S z j
    have he' : ¬ (z = x ∨ z = x + 1 ∨ z = x + 2 ∨ (z = a + 3 ∧ j ≠ 0) ∨ z = a + 4) := he
    by_cases q : z = a + 3
    · have j0 : j = 0 := by omega
      rw [q, j0, m30, pa30]
    · rw [M2S z hz (by omega) (by omega) (by omega) q (by omega)]⟩
  refine ⟨⟨qK_g hK hn KS, kp⟩, lo2, hP.same fun q hq => ?_, fun q hq => ?_, qRC_m hC ag hn (fun z j q => ?_), qRD_w hR kp (by show m2 3 4 = _; rw [lo2 3 (by decide)]) (by show m2 37 12 = _; rw [lo2 37 (by decide)]) (lo2 7 (by decide)) (lo2 46 (by decide)) (lo2 47 (by decide)) (lo2 48 (by decide)) fun k k1 k2 z z1 z2 => ?_⟩
  · have n := qPt_n q hq
    rw [lo2 q.1 (by omega)]
  · rw [lo2 2 (by decide)]
    exact hL q hq
  · have nkx := qknn kx
    have nkx1 := qknn kx1
    have nkx2 := qknn kx2
    have nka3 := qknn ka3
    have nka4 := qknn ka4
    show ¬ (z = x ∨ z = x + 1 ∨ z = x + 2 ∨ (z = a + 3 ∧ j ≠ 0) ∨ z = a + 4)
    intro q2
    rcases q2 with q2 | q2 | q2 | ⟨q2, q3⟩ | q2
    · rw [q2] at q; omega
    · rw [q2] at q; omega
    · rw [q2] at q; omega
    · rw [q2] at q; omega
    · rw [q2] at q; omega
  · obtain ⟨hd, -⟩ := hR.2.2.1 k k1 k2
    obtain ⟨u1, u2, u3, u4, u5⟩ := qAd_D hd kx kx1 kx2 ka3 ka4 z z1 z2
    have := hd.2.2.2.2.2.2
    exact M2S z (by omega) u1 u2 u3 u4 u5
/-- a word is added: all is put together -/
theorem s_addRun1 (e : Nat) (S1 Z : zS) (m m2 m3 : Int → Int → Int) (x y D E N fpi btw : Int) (i n : Nat) (t0 : Int → Int) (x1 x7 : zV) (hK1 : qK S1) (hin : i < n) (n80 : n ≤ 80) (zy : (zn Z : Int) = y) (y0 : y ≠ 0) (ri : zD e 15 [vr y] (zalloc (qW Z m) 21 0 7) = some (.inl none, S1)) (i30a : zm S1 3 0 = 4) (kS1y : zk S1 y = (21, 0)) (v10 : zm S1 y 0 = y + 1) (rs : zD e 97 [vr 4, vi fpi, vr (y + 1)] S1 = some (.inl (some (vi E)), qW S1 m2)) (v20 : m2 y 0 = y + 1) (rd : zD e 164 [vr 3, vr (y + 1)] (qW S1 m2) = some (.inl (some (vr D)), qW S1 m2)) (kx' : zk S1 x = (20, 0)) (ra : zD e 9 [vr x, vr y, vr D, vi btw] (qW S1 m2) = some (.inl none, qW S1 m3)) (i30 : m3 3 0 = 4) (m41 : m3 4 1 = N) (m40 : m3 4 0 = 5) (m5 : ∀ i, i < N → m3 5 i = t0 i) (zE : z32 (E + 1) = E + 1) (E0 : 0 ≤ E) (e60 : E < 60) (cE : E < N) :
    zF_132 e 81 [vr 3, x1, vr x, vi (n : Int), vi btw, vi fpi, vi (i : Int), x7] [] (qW Z m) = zF_132 e 81 [vr 3, vu, vr x, vi (n : Int), vi (t0 E), vi (E + 1), vi ((i + 1 : Nat) : Int), vu] [] (qW S1 m3) := by
  have zi := z32_s i (by omega)
  have hi : (i : Int) < (n : Int) := Int.ofNat_lt.mpr hin
  have t3 := K_3 hK1
  have t4 := K_4 hK1
  have t5 := K_5 hK1
  clear hK1 hin n80
  rw [b132_81]
  simp (config := { maxSteps := 2000000 }) (disch := first | (simp only [t3, t4, t5, y0, zy, i30a, kS1y, v10, v20, kx', i30, m40, E0, e60, qb_in, qkW, qmW, qnW, true_and, and_true, or_self, true_or, or_true, and_self]; done) | omega | (simp only [t3, t4, t5, y0, zy, i30a, kS1y, v10, v20, kx', i30, m40, E0, e60, qb_in, qkW, qmW, qnW, true_and, and_true, or_self, true_or, or_true, and_self]; omega)) only [b132_0, b132_5, b132_13, b132_17, b132_28, b132_39, b132_45, b132_52, b132_63, b132_70, b132_87, b132_94, b132_110, b132_124, b132_129, b132_141, b132_154, b132_156, b132_167, qcall_l, qcall_r, qretn_l, qJ_s, qJ_n, qV0, qEx, ↓qif0, ↓zchk_pos, ↓reduceIte, qput, qWW, qmW, qkW, qnW, t3, t4, t5, if_pos hi, zy, ri, i30a, kS1y, v10, rs, v20, rd, kx', ra, i30, m41, if_pos cE, m40, m5, zE, zi]
theorem s_addRun2 (e : Nat) (S1 Z : zS) (m m2 m3 : Int → Int → Int) (x y D E N fpi btw : Int) (i n : Nat) (t0 : Int → Int) (x1 x7 : zV) (hK1 : qK S1) (hin : i < n) (n80 : n ≤ 80) (zy : (zn Z : Int) = y) (y0 : y ≠ 0) (ri : zD e 15 [vr y] (zalloc (qW Z m) 21 0 7) = some (.inl none, S1)) (i30a : zm S1 3 0 = 4) (kS1y : zk S1 y = (21, 0)) (v10 : zm S1 y 0 = y + 1) (rs : zD e 97 [vr 4, vi fpi, vr (y + 1)] S1 = some (.inl (some (vi E)), qW S1 m2)) (v20 : m2 y 0 = y + 1) (rd : zD e 164 [vr 3, vr (y + 1)] (qW S1 m2) = some (.inl (some (vr D)), qW S1 m2)) (kx' : zk S1 x = (20, 0)) (ra : zD e 9 [vr x, vr y, vr D, vi btw] (qW S1 m2) = some (.inl none, qW S1 m3)) (i30 : m3 3 0 = 4) (m41 : m3 4 1 = N) (m40 : m3 4 0 = 5) (m5 : ∀ i, i < N → m3 5 i = t0 i) (zE : z32 (E + 1) = E + 1) (E0 : 0 ≤ E) (cE : ¬ E < N) :
    zF_132 e 81 [vr 3, x1, vr x, vi (n : Int), vi btw, vi fpi, vi (i : Int), x7] [] (qW Z m) = zF_132 e 81 [vr 3, vu, vr x, vi (n : Int), vi 32, vi (E + 1), vi ((i + 1 : Nat) : Int), vu] [] (qW S1 m3) := by
  have zi := z32_s i (by omega)
  have hi : (i : Int) < (n : Int) := Int.ofNat_lt.mpr hin
  have t3 := K_3 hK1
  have t4 := K_4 hK1
  have t5 := K_5 hK1
  clear hK1 hin n80
  rw [b132_81]
  simp (config := { maxSteps := 2000000 }) (disch := first | (simp only [t3, t4, t5, y0, zy, i30a, kS1y, v10, v20, kx', i30, m40, qb_in, qkW, qmW, qnW, true_and, and_true, or_self, true_or, or_true, and_self]; done) | omega | (simp only [t3, t4, t5, y0, zy, i30a, kS1y, v10, v20, kx', i30, m40, qb_in, qkW, qmW, qnW, true_and, and_true, or_self, true_or, or_true, and_self]; omega)) only [b132_0, b132_5, b132_13, b132_17, b132_28, b132_39, b132_45, b132_52, b132_63, b132_70, b132_87, b132_94, b132_110, b132_124, b132_129, b132_141, b132_154, b132_156, b132_167, qcall_l, qcall_r, qretn_l, qJ_s, qJ_n, qV0, qEx, ↓qif0, ↓zchk_pos, ↓reduceIte, qput, qWW, qmW, qkW, qnW, t3, t4, t5, if_pos hi, zy, ri, i30a, kS1y, v10, rs, v20, rd, kx', ra, i30, m41, if_neg cE, zE, zi]
theorem s_addRun (e : Nat) (S1 Z : zS) (m m2 m3 : Int → Int → Int) (x y D E N fpi btw : Int) (i n : Nat) (t0 : Int → Int) (x1 x7 : zV) (hK1 : qK S1) (hin : i < n) (n80 : n ≤ 80) (zy : (zn Z : Int) = y) (y0 : y ≠ 0) (ri : zD e 15 [vr y] (zalloc (qW Z m) 21 0 7) = some (.inl none, S1)) (i30a : zm S1 3 0 = 4) (kS1y : zk S1 y = (21, 0)) (v10 : zm S1 y 0 = y + 1) (rs : zD e 97 [vr 4, vi fpi, vr (y + 1)] S1 = some (.inl (some (vi E)), qW S1 m2)) (v20 : m2 y 0 = y + 1) (rd : zD e 164 [vr 3, vr (y + 1)] (qW S1 m2) = some (.inl (some (vr D)), qW S1 m2)) (kx' : zk S1 x = (20, 0)) (ra : zD e 9 [vr x, vr y, vr D, vi btw] (qW S1 m2) = some (.inl none, qW S1 m3)) (i30 : m3 3 0 = 4) (m41 : m3 4 1 = N) (m40 : m3 4 0 = 5) (m5 : ∀ i, i < N → m3 5 i = t0 i) (zE : z32 (E + 1) = E + 1) (E0 : 0 ≤ E) (E60 : E < N → E < 60) :
    zF_132 e 81 [vr 3, x1, vr x, vi (n : Int), vi btw, vi fpi, vi (i : Int), x7] [] (qW Z m) = zF_132 e 81 [vr 3, vu, vr x, vi (n : Int), vi (if E < N then t0 E else 32), vi (E + 1), vi ((i + 1 : Nat) : Int), vu] [] (qW S1 m3) := by
  by_cases cE : E < N
  · rw [if_pos cE]
    exact s_addRun1 e S1 Z m m2 m3 x y D E N fpi btw i n t0 x1 x7 hK1 hin n80 zy y0 ri i30a kS1y v10 rs v20 rd kx' ra i30 m41 m40 m5 zE E0 (E60 cE) cE
  · rw [if_neg cE]
    exact s_addRun2 e S1 Z m m2 m3 x y D E N fpi btw i n t0 x1 x7 hK1 hin n80 zy y0 ri i30a kS1y v10 rs v20 rd kx' ra i30 m41 m40 m5 zE E0 cE
theorem s_addEnd {S Z S1 : zS} {m m2 m3 : Int → Int → Int} {x a w t y P' l' : Int} {J0 i : Nat} {fW : Nat → List Int} {fd fs fb fm : Nat → Int} {gL gE : Nat → List Int} {gA gU gM : Nat → Int} (hA : qAdC S Z m x a w t J0 i fW fd fs fb fm gL gE gA gU gM) (hn : (103 : Int) ≤ zn S) (x103 : 103 ≤ x) (xn : x + 2 < zn S) (a103 : 103 ≤ a) (an : a + 4 < zn S) (hy : (zn S : Int) + 6 * i = y) (nS1 : (zn S1 : Int) = y + 6) (cS1 : zc S1 = zc Z + 6) (wS1 : zw S1 = zw Z + 49) (kZ : ∀ z, z < y → zk S1 z = zk Z z) (M2 : ∀ z, z < y → m2 z = m z) (hy1 : qWb (qW S1 m2) y) (sq : qSq m2 (y + 1) (y + 2) (fW i) (fs i) (fd i) (fb i) (qmc (fm i)))
    (B1 : qCB m3 x w t (qZn w t gL gE gA (J0 + i + 1)) P' l') (B2 : qBw m3 y t (qZp w t gL gE gA (J0 + i)).1 (qZp w t gL gE gA (J0 + i)).2) (B3 : qWp m3 (y + 3) (y + 4) (y + 5) (gL (J0 + i)) (gM (J0 + i)) (gU (J0 + i)) (gE (J0 + i))) (B4 : ∀ j, m3 (x + 1) j = if j = (J0 : Int) + i then y else m2 (x + 1) j) (B5 : m3 x 7 = (J0 : Int) + i + 1) (B6 : ∀ j, j ≠ 7 → j ≠ 9 → j ≠ 10 → j ≠ 11 → j ≠ 12 → j ≠ 16 → j ≠ 17 → m3 x j = m2 x j) (B7 : m3 y 0 = y + 1 ∧ m3 y 1 = y + 3) (B8 : m3 (a + 3) 0 = a + 4) (B9 : ∀ z, z ≠ x → z ≠ x + 1 → z ≠ x + 2 → z ≠ y → z ≠ y + 3 → z ≠ y + 4 → z ≠ y + 5 → z ≠ a + 3 → z ≠ a + 4 → m3 z = m2 z) : qAdC S S1 m3 x a w t J0 (i + 1) fW fd fs fb fm gL gE gA gU gM := by
  obtain ⟨⟨A1, A2, A3⟩, Ak, Am, Ar, ⟨Ax, Ax7⟩, Al, Aw, -⟩ := hA
  have M3 : ∀ z : Int, z < y → z ≠ x → z ≠ x + 1 → z ≠ x + 2 → z ≠ a + 3 → z ≠ a + 4 → m3 z = m z := fun z hz h1 h2 h3 h4 h5 => by rw [B9 z h1 h2 h3 (by omega) (by omega) (by omega) (by omega) h4 h5, M2 z hz]
  have B9y : ∀ z, y + 1 ≤ z → z ≤ y + 2 → m3 z = m2 z := fun z z1 z2 => B9 z (by omega) (by omega) (by omega) (by omega) (by omega) (by omega) (by omega) (by omega) (by omega)
  refine ⟨⟨by omega, by omega, by omega⟩, fun z hz => by rw [kZ z (by omega), Ak z hz], fun z hz h1 h2 h3 h4 h5 => by rw [M3 z (by omega) h1 h2 h3 h4 h5, Am z hz h1 h2 h3 h4 h5], B8, ⟨fun j j1 j2 j3 j4 j5 j6 j7 => ?_, ?_⟩, fun j => ?_, fun k hk => ?_, ⟨P', l', B1⟩⟩
  · rw [B6 j j1 j2 j3 j4 j5 j6 j7, M2 x (by omega), Ax j j1 j2 j3 j4 j5 j6 j7]
  · rw [B5]
    omega
  · rw [B4, M2 (x + 1) (by omega), Al]
    clear B9 B9y M3 M2 Aw Al Am B4
    by_cases q : j = (J0 : Int) + i
    · rw [if_pos q, if_pos (by omega)]
      omega
    · rw [if_neg q]
      by_cases q2 : (J0 : Int) ≤ j ∧ j < (J0 : Int) + i
      · rw [if_pos q2, if_pos (by omega)]
      · rw [if_neg q2, if_neg (by omega)]
  · by_cases q : k = i
    · subst q
      rw [hy]
      refine ⟨⟨hy1.1, ⟨B7.1, ?_, B7.2, B3.1, B3.2.1⟩, hy1.2.2⟩, qSq_o sq (B9y _ (by omega) (by omega)) (B9y _ (by omega) (by omega)), B3, B2⟩
      show m3 (y + 1) 0 = y + 2
      rw [B9y _ (by omega) (by omega)]
      exact sq.1
    · obtain ⟨u1, u2, u3, u4⟩ := Aw k (by omega)
      obtain ⟨Y, hYk⟩ : ∃ Y, (zn S : Int) + 6 * k = Y := ⟨_, rfl⟩
      rw [hYk] at u1 u2 u3 u4 ⊢
      have Yr : (zn S : Int) ≤ Y ∧ Y + 5 < y := by omega
      have eo : ∀ z, Y ≤ z → z ≤ Y + 5 → m3 z = m z := fun z z1 z2 => M3 z (by omega) (by omega) (by omega) (by omega) (by omega) (by omega)
      have e0 : ∀ q : Int, 0 ≤ q → q ≤ 5 → m3 (Y + q) = m (Y + q) := fun q q1 q2 => eo _ (by omega) (by omega)
      have e00 := e0 0 (by decide) (by decide)
      rw [Int.add_zero] at e00
      exact ⟨qWb_w (S := qW Z m) (S' := qW S1 m3) u1 ⟨by show zn Z ≤ zn S1; omega, fun z hz => kZ z (by have hz : z < (zn Z : Int) := hz; omega)⟩ eo, qSq_o u2 (e0 1 (by decide) (by decide)) (e0 2 (by decide) (by decide)), qWp_o u3 (e0 3 (by decide) (by decide)) (e0 4 (by decide) (by decide)) (e0 5 (by decide) (by decide)), qBw_w u4 e00⟩
theorem s_addStep (e : Nat) (Z : zS) (m : Int → Int → Int) (i : Nat) (x1 x7 : zV) (he : 12 ≤ e) (hH : qHC S) (h : qAdH S b x c a g w t Nc T J0 n t0 N fp fW fd fs fb fm pp gL gE gA gU gM) (hi : i < n) (hA : qAdC S Z m x a w t J0 i fW fd fs fb fm gL gE gA gU gM) :
    ∃ Z' m' vb, zF_132 e 81 [vr 3, x1, vr x, vi (n : Int), vi (qbtw t0 (fp i) i), vi (fp i), vi (i : Int), x7] [] (qW Z m) = zF_132 e 81 [vr 3, vu, vr x, vi (n : Int), vi vb, vi (fp (i + 1)), vi ((i + 1 : Nat) : Int), vu] [] (qW Z' m') ∧ (i + 1 < n → vb = qbtw t0 (fp (i + 1)) (i + 1)) ∧ qAdC S Z' m' x a w t J0 (i + 1) fW fd fs fb fm gL gE gA gU gM := by
  have h0 := h
  have hA0 := hA
  obtain ⟨ho, hg0, tk, N0⟩ := qAd_o hH h
  obtain ⟨⟨hb, h8, h49, h6, h50, h51, h52, h39, hT⟩, ⟨h54, hJ⟩, ⟨h38, h2⟩, ⟨tx, -⟩, hp, hg, -, -⟩ := h
  obtain ⟨⟨⟨⟨hK, hP, hL, hn⟩, ⟨hRT, hC, hR, hk⟩, hPo, hY⟩, hBB⟩, hYC, hFc⟩ := id hH
  obtain ⟨⟨A1, A2, A3⟩, Ak, Am, Ar, ⟨Ax, Ax7⟩, Al, -, ⟨P, l, Acb⟩⟩ := hA
  obtain ⟨⟨kx, kx1, kx2, x103, xn⟩, ⟨-, x1a, c1, c2⟩, ⟨x2g, -⟩, ⟨-, wr⟩, ⟨-, tr⟩, -, x6, ⟨x7J, -⟩, -⟩ := hY.2.1 b hb.1 hb.2
  rw [h8] at kx kx1 kx2 x103 xn x1a x2g x6 x7J
  rw [h49] at x1a c1 c2
  rw [h51, h52] at kx2
  rw [h51] at wr
  rw [h52] at tr
  rw [h6] at x1a
  rw [h50] at x2g
  obtain ⟨cb, co, -, -⟩ := qRC_1 hC c1 c2
  rw [h6] at cb
  obtain ⟨ka0, ka1, ka2, ka3, ka4, pa0, pa2, pa3, pa30, a103, an⟩ := cb
  obtain ⟨y, hy⟩ : ∃ y, (zn S : Int) + 6 * i = y := ⟨_, rfl⟩
  have zy : (zn Z : Int) = y := by rw [A1, hy]
  have i0 : 0 ≤ (i : Int) := Int.natCast_nonneg i
  obtain ⟨NS, hNS⟩ : ∃ NS : Int, (zn S : Int) = NS := ⟨_, rfl⟩
  have yS : (zn S : Int) ≤ y := by omega
  have y0 : 0 < y := by omega
  have yn0 : y ≠ 0 := by omega
  have xl : x < y ∧ x + 1 < y ∧ x + 2 < y ∧ a < y ∧ a + 3 < y ∧ a + 4 < y := by omega
  have xS : x < zn S ∧ x + 1 < zn S ∧ x + 2 < zn S ∧ a < zn S ∧ a + 3 < zn S ∧ a + 4 < zn S := by omega
  have nya : y + 1 ≠ a + 3 ∧ y + 2 ≠ a + 4 ∧ a + 3 ≠ 0 := by omega
  have e1_ : 2 ≤ e ∧ 3 ≤ e ∧ 4 ≤ e ∧ 9 ≤ e := by omega
  obtain ⟨⟨q1, q2, q3⟩, q4, q5, w2, tsp, -⟩ := tx i hi
  obtain ⟨E, hE⟩ : ∃ E, fp (i + 1) - 1 = E := ⟨_, rfl⟩
  rw [hE] at q2 q3 q4 q5 tsp
  have fE : fp (i + 1) = E + 1 := by omega
  have E0 : 0 ≤ E := by omega
  have N60 := hRT.2.1
  have E60 : E < N → E < 60 := fun _ => by omega
  have zE : z32 (E + 1) = E + 1 := q32 (by omega)
  have xa : a ≠ x ∧ a ≠ x + 1 ∧ a ≠ x + 2 := ⟨qkne ka0 kx (by decide), qkne ka0 kx1 (by decide), qkne ka0 kx2 (by simp)⟩
  have aa : a ≠ a + 3 ∧ a ≠ a + 4 := ⟨by omega, by omega⟩
  have xa_ : x ≠ a + 3 ∧ x ≠ a + 4 := ⟨qkne kx ka3 (by decide), qkne kx ka4 (by decide)⟩
  have cnt : 0 ≤ (J0 : Int) + i ∧ (J0 : Int) + i < 80 := by omega
  have A238 : 3 * ((J0 + i : Nat) : Int) < 238 := by omega
  have B700 : ((J0 + i : Nat) : Int) + 1 < 700 := by omega
  have jlt : J0 + i < J0 + n := by omega
  have jle : J0 + i ≤ J0 + n := by omega
  have n80 : n ≤ 80 := by omega
  obtain ⟨S1, ri, ⟨n1, cS1, wS1⟩, ⟨ky0, ky1, ky2, ky3, ky4, ky5⟩, kZ, M1, y10, y11, y12, y13, y14⟩ := s_addA e Z m y e1_.1 zy y0
  have KS : ∀ z : Int, z < zn S → zk S1 z = zk S z := fun z hz => by rw [kZ z (Int.lt_of_lt_of_le hz yS), Ak z hz]
  have nS : zn S ≤ zn S1 := by omega
  obtain ⟨⟨hK1, kp⟩, lo1, -⟩ := qAd_B (S1 := S1) (m2 := zm S1) hH kx kx1 kx2 x103 ka3 ka4 a103 pa30 KS nS (fun z hz h1 h2 h3 h4 h5 => by rw [M1 z (Int.lt_of_lt_of_le hz yS), Am z hz h1 h2 h3 h4 h5]) (by rw [M1 _ xl.2.2.2.2.1, Ar])
  -- it is spelled
  obtain ⟨m2, rs, sq, fs2⟩ := tsp e S1 (y + 1) (y + 2) e1_.2.2.1 hK1 (by rw [lo1 4 (by decide)]; exact P_4_0 hP) (by rw [lo1 4 (by decide), hRT.1, h2]) (by rw [lo1 5 (by decide), ← h38, ← h2]; exact hRT.2.2.1) ⟨ky1, ky2⟩ y12
  have yy : y ≠ y + 1 ∧ y ≠ y + 2 ∧ y + 3 ≠ y + 1 ∧ y + 3 ≠ y + 2 := by omega
  have M2 : ∀ z, z < y → m2 z = m z := fun z hz => by rw [fs2.1 z (by omega) (by omega), M1 z hz]
  have M2S : ∀ z : Int, z < zn S → z ≠ x → z ≠ x + 1 → z ≠ x + 2 → z ≠ a + 3 → z ≠ a + 4 → m2 z = zm S z := fun z hz h1 h2 h3 h4 h5 => by rw [M2 z (Int.lt_of_lt_of_le hz yS), Am z hz h1 h2 h3 h4 h5]
  have m30 : m2 (a + 3) 0 = a + 4 := by rw [M2 _ xl.2.2.2.2.1, Ar]
  obtain ⟨-, lo2, hP2, hL2, hC2, hR2⟩ := qAd_B (S1 := S1) hH kx kx1 kx2 x103 ka3 ka4 a103 pa30 KS nS M2S m30
  have hdg : fd i = 0 ∨ fd i = 1 := w2.2.2.1.elim (fun q => Or.inl q.1) (fun q => Or.inr q.1)
  obtain ⟨D, rd, dD, dDb, -⟩ := s_divisionOfWord e (qW S1 m2) (y + 1) (y + 2) (fW i) (fs i) (fd i) (fb i) (qmc (fm i)) e1_.2.1 hK1 hP2 hR2 ⟨ky1, ky2⟩ sq w2.1 hdg
  obtain ⟨p1, p2, p3⟩ := hp i hi
  have eP : qPw (zm (qW S1 m2)) (fW i) (fd i) = (pp i : Int) := by
    rw [← p1]
    exact qPw_e (by show m2 37 12 = _; rw [lo2 37 (by decide)]) (lo2 46 (by decide)) (lo2 47 (by decide)) (lo2 48 (by decide)) _ _
  rw [eP] at dD
  obtain ⟨cb2, co2, tk2, -⟩ := qRC_1 hC2 c1 (by show c < m2 37 4; rw [lo2 37 (by decide)]; exact c2)
  rw [show zm (qW S1 m2) 6 c = a by show m2 6 c = a; rw [lo2 6 (by decide), h6], show zm (qW S1 m2) 39 c = Nc by show m2 39 c = Nc; rw [lo2 39 (by decide), h39], show qTm (zm (qW S1 m2)) c = T by rw [← hT]; exact qTm_e (fun x x1 x2 => lo2 x (by omega)) c] at co2
  obtain ⟨g1, g2, g3, g4, g5⟩ := hg i hi
  have zkf := (qZn_f (w := w) (t := t) (fL := gL) (fE := gE) (fA := gA) (J := J0 + n) wr.1 ho hg0 (J0 + i) jle).1
  have bw := qbtw_r (t := t0) (p := fp i) (i := i) (qAd_pt h0 i hi)
  have Mx : ∀ j, j ≠ 7 → j ≠ 9 → j ≠ 10 → j ≠ 11 → j ≠ 12 → j ≠ 16 → j ≠ 17 → m2 x j = zm S x j := fun j j1 j2 j3 j4 j5 j6 j7 => by rw [M2 x xl.1, Ax j j1 j2 j3 j4 j5 j6 j7]
  have nS1 : y + 6 ≤ (zn S1 : Int) := Int.le_of_eq n1.symm
  have hy1 : qWb (qW S1 m2) y := ⟨⟨ky0, ky1, ky2, ky3, ky4, ky5⟩, ⟨by show m2 y 0 = _; rw [fs2.1 y yy.1 yy.2.1, y10], sq.1, by show m2 y 1 = _; rw [fs2.1 y yy.1 yy.2.1, y11], by show m2 (y + 3) 0 = _; rw [fs2.1 _ yy.2.2.1 yy.2.2.2, y13], by show m2 (y + 3) 4 = _; rw [fs2.1 _ yy.2.2.1 yy.2.2.2, y14]⟩, by omega, nS1⟩
  obtain ⟨m3, P', l', ra, B1, B2, B3, B4, B5, B6, B7, B8, B9⟩ := s_append e (qW S1 m2) x y w t P l (3 * ((J0 + i : Nat) : Int)) (((J0 + i : Nat) : Int) + 1) (qbtw t0 (fp i) i) (gA (J0 + i)) a (a + 3) (a + 4) Nc g D ((J0 : Int) + i) (qmc (fm i)) (fs i) (fd i) (fb i) (pp i) T (qZn w t gL gE gA (J0 + i)) (fW i) (gL (J0 + i)) (gE (J0 + i)) e1_.2.2.2 hK1 hL2
    ⟨⟨by rw [qkW, KS x xS.1]; exact kx, by rw [qkW, KS _ xS.2.2.1]; exact kx2⟩, wr, tr, x103⟩ hy1 (by rw [qkW, KS _ xS.2.1]; exact kx1) (by show m2 x 1 = a; rw [Mx 1 (by decide) (by decide) (by decide) (by decide) (by decide) (by decide) (by decide), x1a]) (by show m2 x 2 = g; rw [Mx 2 (by decide) (by decide) (by decide) (by decide) (by decide) (by decide) (by decide), x2g]) (by show m2 x 6 = x + 1; rw [Mx 6 (by decide) (by decide) (by decide) (by decide) (by decide) (by decide) (by decide), x6]) (by show m2 x 7 = _; rw [M2 x xl.1, Ax7]) cnt co2 tk sq ⟨w2.1, w2.2.1, w2.2.2.1, w2.2.2.2.1, Or.inl rfl, w2.2.2.2.2.2⟩ (qmc_r _) (fun q => by rw [← p1, q, qPw_1]) dD (fun q q2 => by
      obtain ⟨d0, -, -, -, d4, -⟩ := dDb q
      have d4 : m2 D 2 = D + 2 := d4
      have q2 : m2 D 2 = y + 5 := q2
      have d0 : zk S1 D = (25, 0) := d0
      rw [show D = y + 3 by rw [d4] at q2; omega, ky3] at d0
      exact absurd d0 (by decide)) p3 (by show m2 a 3 = a + 3; rw [M2S a xS.2.2.2.1 xa.1 xa.2.1 xa.2.2 aa.1 aa.2, pa3]) ⟨by rw [qkW, KS _ xS.2.2.2.2.1]; exact ka3, by rw [qkW, KS _ xS.2.2.2.2.2]; exact ka4⟩ m30 ⟨nya.1, nya.2.1⟩ nya.2.2 g1 g2 (ho _ jlt) (qCB_o Acb (fun j _ => by show m2 x j = m x j; rw [M2 x xl.1]) (M2 _ xl.2.2.1)) zkf A238 B700 (qZn_0 wr.1 ho hg0 (J0 + i) jlt) (by rw [g5]; exact bw)
  rw [← g3, ← g4] at B3
  have B6 : ∀ j, j ≠ 7 → j ≠ 9 → j ≠ 10 → j ≠ 11 → j ≠ 12 → j ≠ 16 → j ≠ 17 → m3 x j = m2 x j := B6
  have B9 : ∀ z, z ≠ x → z ≠ x + 1 → z ≠ x + 2 → z ≠ y → z ≠ y + 3 → z ≠ y + 4 → z ≠ y + 5 → z ≠ a + 3 → z ≠ a + 4 → m3 z = m2 z := B9
  have lo3 : ∀ z, z < 103 → m3 z = zm S z := fun z hz => by rw [B9 z (by omega) (by omega) (by omega) (by omega) (by omega) (by omega) (by omega) (by omega) (by omega), lo2 z hz]
  refine ⟨S1, m3, if E < N then t0 E else 32, ?_, fun q => ?_, s_addEnd (m2 := m2) (P' := P') (l' := l') hA0 hn x103 xS.2.2.1 a103 xS.2.2.2.2.2 hy n1 cS1 wS1 kZ M2 hy1 sq B1 B2 B3 B4 B5 B6 B7 B8 B9⟩
  · rw [fE]
    exact s_addRun e S1 Z m m2 m3 x y D E N (fp i) (qbtw t0 (fp i) i) i n t0 x1 x7 hK1 hi n80 zy yn0 ri (by rw [lo1 3 (by decide)]; exact P_3_0 hP) ky0 y10 rs (by rw [fs2.1 y yy.1 yy.2.1, y10]) rd (by rw [KS x xS.1]; exact kx) ra (by rw [lo3 3 (by decide)]; exact P_3_0 hP) (by rw [lo3 4 (by decide), hRT.1, h2]) (by rw [lo3 4 (by decide)]; exact P_4_0 hP) (by rw [lo3 5 (by decide), ← h38, ← h2]; exact hRT.2.2.1) zE E0 E60
  · rw [if_pos (q4 q).1]
    unfold qbtw
    rw [if_neg (Nat.succ_ne_zero i), hE]
theorem s_addLoop (e : Nat) (he : 12 ≤ e) (hH : qHC S) (h : qAdH S b x c a g w t Nc T J0 n t0 N fp fW fd fs fb fm pp gL gE gA gU gM) : ∀ (G i : Nat) (Z : zS) (m : Int → Int → Int) (vb va : Int) (x1 x7 : zV), i + G = n → (i < n → vb = qbtw t0 (fp i) i ∧ va = fp i) → qAdC S Z m x a w t J0 i fW fd fs fb fm gL gE gA gU gM →
    ∃ Z' m', zF_132 e 81 [vr 3, x1, vr x, vi (n : Int), vi vb, vi va, vi (i : Int), x7] [] (qW Z m) = some (.inl (some (vi ((J0 : Int) + n))), qW Z' (qu m' 4 1 0)) ∧ qAdC S Z' m' x a w t J0 n fW fd fs fb fm gL gE gA gU gM := by
  intro G
  induction G with
  | zero =>
    intro i Z m vb va x1 x7 hi hv hA
    obtain rfl : i = n := by omega
    refine ⟨Z, m, ?_, hA⟩
    obtain ⟨⟨hb, h8, -⟩, -⟩ := id h
    obtain ⟨⟨⟨⟨hK, hP, hL, hn⟩, ⟨hRT, hC, hR, hk⟩, hPo, hY⟩, hBB⟩, hYC, hFc⟩ := id hH
    obtain ⟨-, Ak, Am, -, ⟨-, Ax7⟩, -⟩ := hA
    obtain ⟨⟨kx, kx1, kx2, x103, xn⟩, ⟨-, x1a, c1, c2⟩, -⟩ := hY.2.1 b hb.1 hb.2
    rw [h8] at kx x103 xn
    obtain ⟨cb, -⟩ := qRC_1 hC c1 c2
    have hKZ : qK Z := qK_g hK hn Ak
    have kx' : zk Z x = (20, 0) := by rw [Ak x (by omega)]; exact kx
    have a103 : 103 ≤ a := by
      have := cb.2.2.2.2.2.2.2.2.2.1
      obtain ⟨⟨-, -, g49, g6, -⟩, -⟩ := h
      rw [g49, g6] at this
      exact this
    have i30 : m 3 0 = 4 := by rw [Am 3 (by omega) (by omega) (by omega) (by omega) (by omega) (by omega)]; exact P_3_0 hP
    have v7 : qu m 4 1 0 x 7 = (J0 : Int) + i := by rw [qu_o _ _ _ _ _ (by omega), Ax7]
    rw [b132_81]
    simp (config := { maxSteps := 2000000 }) (disch := first | omega | (simp only [K_3 hKZ, K_4 hKZ, i30, kx', qb_in, qkW, qmW, qnW, true_and, and_true, or_self, true_or, or_true, and_self]; done) | (simp only [K_3 hKZ, K_4 hKZ, i30, kx', qb_in, qkW, qmW, qnW, true_and, and_true, or_self, true_or, or_true, and_self]; omega)) only [b132_0, b132_5, b132_13, b132_17, b132_28, b132_39, b132_45, b132_52, b132_63, b132_70, b132_87, b132_94, b132_110, b132_124, b132_129, b132_141, b132_154, b132_156, b132_167, qcall_l, qcall_r, qretn_l, qJ_s, qJ_n, qV0, qEx, ↓qif0, ↓zchk_pos, ↓reduceIte, qput, qWW, qmW, qkW, qnW, K_3 hKZ, K_4 hKZ, if_neg (show ¬ (i : Int) < i from Int.lt_irrefl _), i30, kx', v7]
  | succ G ih =>
    intro i Z m vb va x1 x7 hi hv hA
    obtain ⟨rfl, rfl⟩ := hv (by omega)
    obtain ⟨Z1, m1, vb1, r1, v1, A1⟩ := s_addStep e Z m i x1 x7 he hH h (by omega) hA
    obtain ⟨Z2, m2, r2, A2⟩ := ih (i + 1) Z1 m1 vb1 (fp (i + 1)) vu vu (by omega) (fun q => ⟨v1 q, rfl⟩) A1
    exact ⟨Z2, m2, by rw [r1, r2], A2⟩
end
