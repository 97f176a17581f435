/-! The text on the tape is added to a book: what is known behind it. -/
theorem qbn_n {m : Int → Int → Int} {b : Int} : ∀ n : Nat, qbn m b n = 0 → ∀ k : Nat, k < n → m 82 k ≠ b := by
  intro n
  induction n with
  | zero => intro _ k hk; omega
  | succ n ih =>
    intro h k hk
    rw [qbn] at h
    have r := qbn_r m b n
    by_cases c : m 82 n = b
    · rw [if_pos c] at h
      omega
    · rw [if_neg c] at h
      by_cases q : k = n
      · rw [q]; exact c
      · exact ih (by omega) k (by omega)
def qEk_add (S : zS) (z j : Int) : Prop := z = 102 ∨ z = 64 ∨ (z = 4 ∧ j = 1) ∨ (z = 37 ∧ (j = 0 ∨ j = 2 ∨ (32 ≤ j ∧ j ≤ 34) ∨ (36 ≤ j ∧ j ≤ 38))) ∨ (54 ≤ z ∧ z ≤ 61) ∨ (103 ≤ z ∧ (((zk S z).1 = 20 ∧ (j = 7 ∨ (9 ≤ j ∧ j ≤ 12) ∨ j = 16 ∨ j = 17)) ∨ (zk S z).1 = 11 ∨ (zk S z).1 = 3 ∨ ((zk S z).1 = 28 ∧ j ≠ 0) ∨ ((zk S z).1 = 0 ∧ (zk S z).2 = 10)))
section
variable {S : zS} {b x c a g w t Nc : Int} {T : Int → Int → Int} {J0 n : Nat} {t0 : Int → Int} {N : Int} {fp : Nat → Int} {fW : Nat → List Int} {fd fs fb fm : Nat → Int} {pp : Nat → Nat} {gL gE : Nat → List Int} {gA gU gM : Nat → Int}
theorem q_add_T {Z : zS} {m : Int → Int → Int} {fL fE : Nat → List Int} {fA fU fM : Nat → Int} {P0 l0 P l : Int} (hH : qHC S) (h : qAdH S b x c a g w t Nc T J0 n t0 N fp fW fd fs fb fm pp gL gE gA gU gM) (hn1 : 0 < n) (h13 : zm S x 13 = 0)
    (old : qB0 S b x w t J0 fL fE fA fU fM P0 l0) (oldl : qBl (zm S) b w t J0 fL fE fA fU fM) (ext : ∀ j, j < J0 → gL j = fL j ∧ gE j = fE j ∧ gA j = fA j ∧ gU j = fU j ∧ gM j = fM j)
    (Zn : zn S ≤ zn Z) (Zk : ∀ z : Int, z < zn S → zk Z z = zk S z)
    (Mo : ∀ (z j : Int), z < zn S → ¬ (z = 102 ∨ z = 64 ∨ (z = 4 ∧ j = 1) ∨ (z = 37 ∧ (j = 0 ∨ j = 2 ∨ (32 ≤ j ∧ j ≤ 34) ∨ (36 ≤ j ∧ j ≤ 38))) ∨ (54 ≤ z ∧ z ≤ 61) ∨ (z = x ∧ (j = 7 ∨ (9 ≤ j ∧ j ≤ 12) ∨ j = 16 ∨ j = 17)) ∨ z = x + 1 ∨ z = x + 2 ∨ (z = a + 3 ∧ j ≠ 0) ∨ z = a + 4) → m z j = zm S z j)
    (M41 : m 4 1 = 0) (M372 : m 37 2 = 0) (M54 : m 54 b = (J0 : Int) + n ∧ ∀ b', b' ≠ b → m 54 b' = zm S 54 b') (M55 : ∀ z q, (55 ≤ z ∧ z ≤ 57) ∨ (59 ≤ z ∧ z ≤ 61) → q < 80 * b + J0 ∨ 80 * b + J0 + n ≤ q → m z q = zm S z q) (M58 : ∀ q, q < 10 * (80 * b + J0) ∨ 10 * (80 * b + J0 + n) ≤ q → m 58 q = zm S 58 q)
    (Mr : ∀ k : Nat, k < n → qWr m (80 * b + ((J0 : Int) + k)) (fW k) (fd k) (fs k) (fb k) (fm k) ∧ m 61 (80 * b + ((J0 : Int) + k)) = qah_ t0 (fp k) k)
    (Mx7 : m x 7 = (J0 : Int) + n) (Mx1 : ∀ j : Int, m (x + 1) j = if (J0 : Int) ≤ j ∧ j < (J0 : Int) + n then (zn S : Int) + 6 * (j - J0) else zm S (x + 1) j)
    (Mw : ∀ k : Nat, k < n → qWb (qW Z m) ((zn S : Int) + 6 * k) ∧ qSq m ((zn S : Int) + 6 * k + 1) ((zn S : Int) + 6 * k + 2) (fW k) (fs k) (fd k) (fb k) (qmc (fm k)) ∧ qWp m ((zn S : Int) + 6 * k + 3) ((zn S : Int) + 6 * k + 4) ((zn S : Int) + 6 * k + 5) (gL (J0 + k)) (gM (J0 + k)) (gU (J0 + k)) (gE (J0 + k)) ∧ qBw m ((zn S : Int) + 6 * k) t (qZp w t gL gE gA (J0 + k)).1 (qZp w t gL gE gA (J0 + k)).2)
    (Mcb : qCB m x w t (qZn w t gL gE gA (J0 + n)) P l) : qHC (qW Z m) := by
  have h0 := h
  obtain ⟨ho, hg0, tk, N0⟩ := qAd_o hH h
  obtain ⟨⟨hb, h8, h49, h6, h50, h51, h52, h39, hT⟩, ⟨h54, hJ⟩, ⟨h38, h2⟩, ⟨tx, -⟩, hp, hg, -, -⟩ := h
  obtain ⟨⟨⟨⟨hK, hP, hL, hn⟩, ⟨hRT, hC, hR, hk⟩, ⟨p1, p2, p3, p4, p5, p6⟩, hY⟩, hBB⟩, hYC, hFc⟩ := id hH
  have kp : qKp S (qW Z m) := ⟨Zn, Zk⟩
  obtain ⟨⟨kx, kx1, kx2, x103, xn⟩, s1, s2, s3, s4, s5, x6, ⟨x7J, -⟩, s8, s14, s15⟩ := id (hY.2.1 b hb.1 hb.2)
  rw [h8] at kx kx1 kx2 x103 xn x6 x7J s8 s14 s15 s1 s2 s3 s4 s5
  have c1 := s1.2.2
  rw [h49] at c1
  obtain ⟨cb, co, -, -⟩ := qRC_1 hC c1.1 c1.2
  rw [h6] at cb
  obtain ⟨ka0, ka1, ka2, ka3, ka4, pa0, pa2, pa3, pa30, a103, an⟩ := cb
  have nkx := qknn kx
  have nkx1 := qknn kx1
  have nkx2 := qknn kx2
  have nka2 := qknn ka2
  have nka3 := qknn ka3
  have nka4 := qknn ka4
  have ag : qAg S (qW Z m) (qEk_add S) := ⟨kp, fun z j hz he => by
    unfold qEk_add at he
    refine Mo z j hz fun q => he ?_
    rcases q with q | q | q | q | q | ⟨q, q2⟩ | q | q | ⟨q, q2⟩ | q
    · exact Or.inl q
    · exact Or.inr (Or.inl q)
    · exact Or.inr (Or.inr (Or.inl q))
    · exact Or.inr (Or.inr (Or.inr (Or.inl q)))
    · exact Or.inr (Or.inr (Or.inr (Or.inr (Or.inl q))))
    · rw [q]; omega
    · rw [q]; omega
    · rw [q]; omega
    · rw [q]; omega
    · rw [q]; omega⟩
  have lo : ∀ z, z < 54 → z ≠ 4 → z ≠ 37 → m z = zm S z := fun z h1 h2 h3 => funext fun j => Mo z j (by omega) (by omega)
  have lo2 : ∀ z, 62 ≤ z → z < 102 → z ≠ 64 → m z = zm S z := fun z h1 h2 h3 => funext fun j => Mo z j (by omega) (by omega)
  have l37 : ∀ j, ¬ (j = 0 ∨ j = 2 ∨ (32 ≤ j ∧ j ≤ 34) ∨ (36 ≤ j ∧ j ≤ 38)) → m 37 j = zm S 37 j := fun j hj => Mo 37 j (by omega) (by omega)
  have hi : ∀ z : Int, 103 ≤ z → z < zn S → z ≠ x → z ≠ x + 1 → z ≠ x + 2 → z ≠ a + 3 → z ≠ a + 4 → m z = zm S z := fun z h1 h2 h3 h4 h5 h6 h7 => funext fun j => Mo z j h2 (by omega)
  have e16 : m 37 16 = zm S 37 16 := l37 16 (by omega)
  have e65 : m 37 65 = zm S 37 65 := l37 65 (by omega)
  have e75 : m 37 75 = zm S 37 75 := l37 75 (by omega)
  have e73 : m 37 73 = zm S 37 73 := l37 73 (by omega)
  have e12 : m 37 12 = zm S 37 12 := l37 12 (by omega)
  have l8 : m 8 = zm S 8 := lo 8 (by decide) (by decide) (by decide)
  -- other books
  have ob : ∀ b', 0 ≤ b' → b' < zm S 37 16 → b' ≠ b → zm S 8 b' ≠ x ∧ (m (zm S 8 b') = zm S (zm S 8 b') ∧ m (zm S 8 b' + 1) = zm S (zm S 8 b' + 1) ∧ m (zm S 8 b' + 2) = zm S (zm S 8 b' + 2)) := fun b' b1 b2 ne => by
    obtain ⟨⟨f1, f2, f3, f4, f5⟩, -⟩ := hY.2.1 b' b1 b2
    have n1 := qknn f1
    have n2 := qknn f2
    have n3 := qknn f3
    have nx : zm S 8 b' ≠ x := by
      rw [← h8]
      rcases Int.lt_or_gt_of_ne ne with q | q
      · exact hY.2.2.1 b' b b1 q hb.2
      · exact Ne.symm (hY.2.2.1 b b' hb.1 q b2)
    refine ⟨nx, hi _ f4 (by omega) nx (fun q => by rw [q] at n1; omega) (fun q => by rw [q] at n1; omega) (fun q => by rw [q] at n1; omega) (fun q => by rw [q] at n1; omega), hi _ (by omega) (by omega) (fun q => by rw [q] at n2; omega) (by omega) (fun q => by rw [q] at n2; omega) (fun q => by rw [q] at n2; omega) (fun q => by rw [q] at n2; omega), hi _ (by omega) (by omega) (fun q => by rw [q] at n3; omega) (fun q => by rw [q] at n3; omega) (by omega) (fun q => by rw [q] at n3; omega) (fun q => by rw [q] at n3; omega)⟩
  -- copies are of other books
  have nb : ∀ k, 0 ≤ k → k < zm S 37 65 → zm S 82 k ≠ b := fun k k1 k2 => by
    have := hYC.1 b hb.1 hb.2
    rw [h8, h13] at this
    have q := qbn_n (m := zm S) (b := b) (zm S 37 65).toNat this.symm k.toNat (by omega)
    rw [show ((k.toNat : Nat) : Int) = k by omega] at q
    exact q
  have l82 : m 82 = zm S 82 := lo2 82 (by decide) (by decide) (by decide)
  have l13 : m 13 = zm S 13 := lo 13 (by decide) (by decide) (by decide)
  have l85 : m 85 = zm S 85 := lo2 85 (by decide) (by decide) (by decide)
  have l83 : m 83 = zm S 83 := lo2 83 (by decide) (by decide) (by decide)
  have l88 : m 88 = zm S 88 := lo2 88 (by decide) (by decide) (by decide)
  have l89 : m 89 = zm S 89 := lo2 89 (by decide) (by decide) (by decide)
  have l51 : m 51 = zm S 51 := lo 51 (by decide) (by decide) (by decide)
  have l52 : m 52 = zm S 52 := lo 52 (by decide) (by decide) (by decide)
  have l53 : m 53 = zm S 53 := lo 53 (by decide) (by decide) (by decide)
  have l49 : m 49 = zm S 49 := lo 49 (by decide) (by decide) (by decide)
  have l50 : m 50 = zm S 50 := lo 50 (by decide) (by decide) (by decide)
  have l6 : m 6 = zm S 6 := lo 6 (by decide) (by decide) (by decide)
  have l62 : m 62 = zm S 62 := lo2 62 (by decide) (by decide) (by decide)
  have l63 : m 63 = zm S 63 := lo2 63 (by decide) (by decide) (by decide)
  have xj : ∀ j, ¬ (j = 7 ∨ (9 ≤ j ∧ j ≤ 12) ∨ j = 16 ∨ j = 17) → m x j = zm S x j := fun j hj => by
    refine Mo x j (by omega) ?_
    intro q
    rcases q with q | q | q | q | q | q | q | q | ⟨q, -⟩ | q
    · omega
    · omega
    · omega
    · omega
    · omega
    · omega
    · omega
    · omega
    · rw [q] at nkx; omega
    · rw [q] at nkx; omega
  have kP := qP_m hP ag hn (fun z j q => by unfold qEk_add; omega)
  have kL := qLt_m hL ag hn (fun j => by unfold qEk_add; omega)
  have kC := qRC_m hC ag hn (fun z j q => by unfold qEk_add; omega)
  have kYn := qYn_k p1 ag hn (fun z j q => by unfold qfN at q; unfold qEk_add; omega)
  have kYd := qYd_k p2 ag hn (fun z j q => by unfold qfDy at q; unfold qEk_add; omega)
  have i16 : zm S 37 16 ≤ zm (qW Z m) 37 16 := Int.le_of_eq e16.symm
  have i76 : zm S 37 76 ≤ zm (qW Z m) 37 76 := Int.le_of_eq (l37 76 (by omega)).symm
  have kYw := qYw_k p3 ag hn (fun z j q => by unfold qfW at q; unfold qEk_add; omega) i76 i16
  have kYp := qYp_k p4 ag hn (fun z j q => by have q := qfP_n q; unfold qEk_add; omega) i76 i16
  have kYr := qYr_k p5 ag hn (fun z j q => by have q := qfR_n q; unfold qEk_add; omega)
  have kYh := qYh_k p5 p6 ag hn (fun z j q => by have q := qfH_n q; unfold qEk_add; omega)
  have kT : qRT (qW Z m) := ⟨by show m 4 1 = m 37 2; rw [M41, M372], by show 0 ≤ m 37 2 ∧ m 37 2 ≤ 60; rw [M372]; decide, by show ∀ i, i < m 37 2 → m 5 i = m 38 i; rw [lo 5 (by decide) (by decide) (by decide), lo 38 (by decide) (by decide) (by decide), M372]; exact fun i i2 => hRT.2.2.1 i (by have := hRT.2.1.1; omega), fun i i1 i2 => by
    have i2 : i < m 37 2 := i2
    omega⟩
  have kD : qRD (qW Z m) := qRD_w hR kp (by show m 3 4 = _; rw [lo 3 (by decide) (by decide) (by decide)]) e12 (lo 7 (by decide) (by decide) (by decide)) (lo 46 (by decide) (by decide) (by decide)) (lo 47 (by decide) (by decide) (by decide)) (lo 48 (by decide) (by decide) (by decide)) fun k k1 k2 z z1 z2 => by
    obtain ⟨⟨d0, d1, d2, q0, q2, b1, b2⟩, -⟩ := hR.2.2.1 k k1 k2
    have e0 := qknn d0
    have e1 := qknn d1
    have e2 := qknn d2
    generalize zm S 7 k = D at *
    have hz : z = D ∨ z = D + 1 ∨ z = D + 2 := by omega
    have f0 : ∀ y, y = x ∨ y = x + 1 ∨ y = x + 2 ∨ y = a + 3 → D ≠ y ∧ D + 1 ≠ y ∧ D + 2 ≠ y := fun y hy => by
      refine ⟨fun q => ?_, fun q => ?_, fun q => ?_⟩
      · rw [q] at e0; rcases hy with r | r | r | r <;> rw [r] at e0 <;> omega
      · rw [q] at e1; rcases hy with r | r | r | r <;> rw [r] at e1 <;> omega
      · rw [q] at e2; rcases hy with r | r | r | r <;> rw [r] at e2 <;> omega
    have f1 := f0 x (by omega)
    have f2 := f0 (x + 1) (by omega)
    have f3 := f0 (x + 2) (by omega)
    have f4 := f0 (a + 3) (by omega)
    have f5 : D ≠ a + 4 := fun q => by rw [q] at e0; omega
    have f6 : D + 2 ≠ a + 4 := fun q => by rw [q] at e2; omega
    exact hi z (by omega) (by omega) (by omega) (by omega) (by omega) (by omega) (by omega)
  have kK : qRK (qW Z m) := fun k k1 k2 => by
    have k2 : k < m 37 12 := k2
    rw [e12] at k2
    show ∃ p n : Nat, m 48 k = (p : Int) ∧ m 47 k = (n : Int) ∧ qPk p n
    rw [lo 47 (by decide) (by decide) (by decide), lo 48 (by decide) (by decide) (by decide)]
    exact hk k k1 k2
  have kYb : qYb (qW Z m) := by
    refine ⟨⟨by show m 3 6 = m 37 16; rw [lo 3 (by decide) (by decide) (by decide), e16]; exact hY.1.1, by show 0 ≤ m 37 16; rw [e16]; exact hY.1.2.1, by show m 37 16 ≤ 4; rw [e16]; exact hY.1.2.2⟩, fun i i1 i2 => ?_, fun i k i1 i2 k2 => ?_, fun i i1 i2 => ?_⟩
    · have i2 : i < m 37 16 := i2
      rw [e16] at i2
      show qBs (qW Z m) (m 8 i) i
      rw [l8]
      by_cases q : i = b
      · subst q
        rw [h8]
        unfold qBs
        show (zk Z x = (20, 0) ∧ zk Z (x + 1) = (11, 80) ∧ zk Z (x + 2) = (3, qbl (m 51 i) (m 52 i)) ∧ 103 ≤ x ∧ x + 3 ≤ zn Z) ∧ (m x 0 = m 49 i ∧ m x 1 = m 6 (m 49 i) ∧ 0 ≤ m 49 i ∧ m 49 i < m 37 4) ∧ (m x 2 = m 50 i ∧ 0 ≤ m 50 i ∧ m 50 i ≤ 3) ∧ (m x 3 = m 51 i ∧ 18 ≤ m 51 i ∧ m 51 i ≤ 40) ∧ (m x 4 = m 52 i ∧ 3 ≤ m 52 i ∧ m 52 i ≤ 25) ∧ (m x 5 = m 53 i ∧ 0 ≤ m 53 i ∧ m 53 i ≤ 1) ∧ m x 6 = x + 1 ∧ (m x 7 = m 54 i ∧ 0 ≤ m 54 i ∧ m 54 i ≤ 80) ∧ m x 8 = x + 2 ∧ (m x 14 = m 62 i ∧ 0 ≤ m 62 i ∧ m 62 i ≤ 1000) ∧ (m x 15 = m 63 i ∧ 0 ≤ m 63 i ∧ m 63 i ≤ 63)
        rw [l49, l50, l51, l52, l53, l6, l62, l63, l37 4 (by omega), xj 0 (by omega), xj 1 (by omega), xj 2 (by omega), xj 3 (by omega), xj 4 (by omega), xj 5 (by omega), xj 6 (by omega), xj 8 (by omega), xj 14 (by omega), xj 15 (by omega), Mx7, M54.1, Zk x (by omega), Zk (x + 1) (by omega), Zk (x + 2) (by omega)]
        exact ⟨⟨kx, kx1, kx2, x103, by omega⟩, s1, s2, s3, s4, s5, x6, ⟨rfl, by omega, by omega⟩, s8, s14, s15⟩
      · obtain ⟨-, g1, -, -⟩ := ob i i1 i2 q
        have st := hY.2.1 i i1 i2
        unfold qBs at st ⊢
        show (zk Z (zm S 8 i) = (20, 0) ∧ zk Z (zm S 8 i + 1) = (11, 80) ∧ zk Z (zm S 8 i + 2) = (3, qbl (m 51 i) (m 52 i)) ∧ 103 ≤ zm S 8 i ∧ zm S 8 i + 3 ≤ zn Z) ∧ (m (zm S 8 i) 0 = m 49 i ∧ m (zm S 8 i) 1 = m 6 (m 49 i) ∧ 0 ≤ m 49 i ∧ m 49 i < m 37 4) ∧ (m (zm S 8 i) 2 = m 50 i ∧ 0 ≤ m 50 i ∧ m 50 i ≤ 3) ∧ (m (zm S 8 i) 3 = m 51 i ∧ 18 ≤ m 51 i ∧ m 51 i ≤ 40) ∧ (m (zm S 8 i) 4 = m 52 i ∧ 3 ≤ m 52 i ∧ m 52 i ≤ 25) ∧ (m (zm S 8 i) 5 = m 53 i ∧ 0 ≤ m 53 i ∧ m 53 i ≤ 1) ∧ m (zm S 8 i) 6 = zm S 8 i + 1 ∧ (m (zm S 8 i) 7 = m 54 i ∧ 0 ≤ m 54 i ∧ m 54 i ≤ 80) ∧ m (zm S 8 i) 8 = zm S 8 i + 2 ∧ (m (zm S 8 i) 14 = m 62 i ∧ 0 ≤ m 62 i ∧ m 62 i ≤ 1000) ∧ (m (zm S 8 i) 15 = m 63 i ∧ 0 ≤ m 63 i ∧ m 63 i ≤ 63)
        obtain ⟨⟨t1, t2, t3, t4, t5⟩, t6⟩ := st
        rw [l49, l50, l51, l52, l53, l6, l62, l63, l37 4 (by omega), g1, M54.2 i q, Zk _ (by omega), Zk _ (by omega), Zk _ (by omega)]
        exact ⟨⟨t1, t2, t3, t4, by omega⟩, t6⟩
    · have k2 : k < m 37 16 := k2
      rw [e16] at k2
      show m 8 i ≠ m 8 k
      rw [l8]
      exact hY.2.2.1 i k i1 i2 k2
    · have i1 : m 37 16 ≤ i := i1
      rw [e16] at i1
      show m 54 i = 0 ∧ m 62 i = 0 ∧ m 63 i = 0
      rw [M54.2 i (by omega), l62, l63]
      exact hY.2.2.2 i i1 i2
  have words : ∀ b', 0 ≤ b' → b' < zm S 37 16 → ∀ (J : Nat) (fL' fE' : Nat → List Int) (fA' fU' fM' : Nat → Int) (P' l' : Int), qB0 S b' (zm S 8 b') (zm S 51 b') (zm S 52 b') J fL' fE' fA' fU' fM' P' l' → ∀ j : Int, 0 ≤ j → j < J → ∀ z, zm S (zm S 8 b' + 1) j ≤ z → z ≤ zm S (zm S 8 b' + 1) j + 5 → m z = zm S z := fun b' b1 b2 J fL' fE' fA' fU' fM' P' l' q0 j j1 j2 z z1 z2 => by
    obtain ⟨w1, -⟩ := q0.2.1 j.toNat (by omega)
    rw [show ((j.toNat : Nat) : Int) = j by omega] at w1
    obtain ⟨⟨⟨y0, y1, y2, y3, y4, y5⟩, -, y103, yn⟩, -⟩ := qWw_b w1
    generalize zm S (zm S 8 b' + 1) j = y at *
    have e0 := qknn y0
    have e1 := qknn y1
    have e2 := qknn y2
    have e3 := qknn y3
    have e4 := qknn y4
    have e5 := qknn y5
    have hz : z = y ∨ z = y + 1 ∨ z = y + 2 ∨ z = y + 3 ∨ z = y + 4 ∨ z = y + 5 := by omega
    refine hi z (by omega) (by omega) (fun q => ?_) (fun q => ?_) (fun q => ?_) (fun q => ?_) (fun q => ?_)
    · rcases hz with r | r | r | r | r | r
      · rw [← r, q] at e0; omega
      · rw [← r, q] at e1; omega
      · rw [← r, q] at e2; omega
      · rw [← r, q] at e3; omega
      · rw [← r, q] at e4; omega
      · rw [← r, q] at e5; omega
    · rcases hz with r | r | r | r | r | r
      · rw [← r, q] at e0; omega
      · rw [← r, q] at e1; omega
      · rw [← r, q] at e2; omega
      · rw [← r, q] at e3; omega
      · rw [← r, q] at e4; omega
      · rw [← r, q] at e5; omega
    · rcases hz with r | r | r | r | r | r
      · rw [← r, q] at e0; omega
      · rw [← r, q] at e1; omega
      · rw [← r, q] at e2; omega
      · rw [← r, q] at e3; omega
      · rw [← r, q] at e4; omega
      · rw [← r, q] at e5; omega
    · rcases hz with r | r | r | r | r | r
      · rw [← r, q] at e0; omega
      · rw [show y = a + 2 by omega] at e0; omega
      · rw [← r, q] at e2; omega
      · rw [← r, q] at e3; omega
      · rw [← r, q] at e4; omega
      · rw [← r, q] at e5; omega
    · rcases hz with r | r | r | r | r | r
      · rw [← r, q] at e0; omega
      · rw [← r, q] at e1; omega
      · rw [show y = a + 2 by omega] at e0; omega
      · rw [← r, q] at e3; omega
      · rw [← r, q] at e4; omega
      · rw [← r, q] at e5; omega
  have rcK : ∀ c' N' T', qRc (zm S) c' N' T' → qRc m c' N' T' := fun c' N' T' rc => qRc_f rc fun z z1 z2 => lo z (by omega) (by omega) (by omega)
  have pwK : ∀ W dg, qPw m W dg = qPw (zm S) W dg := fun W dg => qPw_e e12 (lo 46 (by decide) (by decide) (by decide)) (lo 47 (by decide) (by decide) (by decide)) (lo 48 (by decide) (by decide) (by decide)) W dg
  have krK : ∀ (b' j : Int), 0 ≤ b' → (0 ≤ j ∧ j < 80) → b' ≠ b ∨ j < (J0 : Int) → qKr (zm S) m b' j := fun b' j b1 hj hbj => by
    refine ⟨fun z z1 z2 => by rw [show m z = zm S z from lo z (by omega) (by omega) (by omega)], fun z hz => M55 z _ hz ?_, fun i i1 i2 => M58 _ ?_⟩
    · rcases hbj with q | q
      · rcases Int.lt_or_gt_of_ne q with r | r <;> omega
      · by_cases r : b' = b
        · rw [r]; omega
        · rcases Int.lt_or_gt_of_ne r with r | r <;> omega
    · rcases hbj with q | q
      · rcases Int.lt_or_gt_of_ne q with r | r <;> omega
      · by_cases r : b' = b
        · rw [r]; omega
        · rcases Int.lt_or_gt_of_ne r with r | r <;> omega
  have lay : ∀ z, 71 ≤ z → z ≤ 80 → m z = zm S z := fun z z1 z2 => lo2 z (by omega) (by omega) (by omega)
  have kBB : ∀ b', 0 ≤ b' → b' < zm (qW Z m) 37 16 → qBB (qW Z m) b' := fun b' b1 b2 => by
    have b2 : b' < m 37 16 := b2
    rw [e16] at b2
    by_cases q : b' = b
    · subst q
      refine ⟨J0 + n, gL, gE, gA, gU, gM, P, l, ?_, ?_⟩
      · show qB0 (qW Z m) b' (m 8 b') (m 51 b') (m 52 b') (J0 + n) gL gE gA gU gM P l
        rw [l8, l51, l52, h8, h51, h52]
        refine ⟨⟨by show m 54 b' = _; rw [M54.1]; omega, hJ, hg0⟩, fun j hj => ?_, Mcb⟩
        show qWw (qW Z m) b' j (m (x + 1) j) (gL j) (gE j) (gA j) (gU j) (gM j) ∧ qBw m (m (x + 1) j) t (qZp w t gL gE gA j).1 (qZp w t gL gE gA j).2
        by_cases c2 : j < J0
        · obtain ⟨g1, g2, g3, g4, g5⟩ := ext j c2
          obtain ⟨w1, w2⟩ := old.2.1 j c2
          have ezp : qZp w t gL gE gA j = qZp w t fL fE fA j := by
            unfold qZp
            rw [qZn_c (w := w) (t := t) j fun i hi' => ⟨(ext i (by omega)).1, (ext i (by omega)).2.1, (ext i (by omega)).2.2.1⟩, g1, g2, g3]
          have old' : qB0 S b' (zm S 8 b') (zm S 51 b') (zm S 52 b') J0 fL fE fA fU fM P0 l0 := by rw [h8, h51, h52]; exact old
          have ez := words b' b1 b2 J0 fL fE fA fU fM P0 l0 old' j (by omega) (by omega)
          rw [h8] at ez
          rw [Mx1, if_neg (by omega), g1, g2, g3, g4, g5, ezp]
          exact ⟨qWw_w (S' := qW Z m) w1 kp (krK b' j b1 (by omega) (Or.inr (by omega))) (fun N' T' rc => rcK _ N' T' rc) pwK ez, qBw_w w2 (ez _ (Int.le_refl _) (by omega))⟩
        · obtain ⟨k, rfl⟩ : ∃ k, j = J0 + k := ⟨j - J0, by omega⟩
          have hkn : k < n := by omega
          obtain ⟨u1, u2, u3, u4⟩ := Mw k hkn
          obtain ⟨r1, r2⟩ := Mr k hkn
          obtain ⟨g1, g2, g3, g4, g5⟩ := hg k hkn
          obtain ⟨q1, q2, q3⟩ := hp k hkn
          have bw := qbtw_r (t := t0) (p := fp k) (i := k) (qAd_pt h0 k hkn)
          rw [Mx1, if_pos (by omega), show (zn S : Int) + 6 * (((J0 + k : Nat) : Int) - J0) = (zn S : Int) + 6 * k by omega]
          refine ⟨⟨fW k, fd k, fs k, fb k, fm k, c, Nc, g, T, pp k, ⟨⟨?_, (tx k hkn).2.2.2.1, ?_⟩, ⟨?_, ?_, ?_, tk⟩, ⟨?_, q2, q3⟩, g1, g2, g3, g4, ?_⟩, u1, u2, u3⟩, u4⟩
          · show qWr m (80 * b' + ((J0 + k : Nat) : Int)) _ _ _ _ _
            rw [show 80 * b' + ((J0 + k : Nat) : Int) = 80 * b' + ((J0 : Int) + k) by omega]
            exact r1
          · show m 61 (80 * b' + ((J0 + k : Nat) : Int)) = _
            rw [show 80 * b' + ((J0 + k : Nat) : Int) = 80 * b' + ((J0 : Int) + k) by omega, r2, g5]
          · show m 49 b' = c
            rw [l49, h49]
          · show m 50 b' = g
            rw [l50, h50]
          · have rc := qRC_r hC c1.1 c1.2
            rw [h39, hT] at rc
            exact rcK c Nc T rc
          · show qPw m _ _ = _
            rw [pwK, q1]
          · rw [g5]
            omega
      · show qBl m b' (m 51 b') (m 52 b') (J0 + n) gL gE gA gU gM
        intro hl
        rw [l37 50 (by omega)] at hl
        obtain ⟨y1, -⟩ := oldl hl
        rw [l37 51 (by omega)]
        exact ⟨by omega, fun y2 => by omega⟩
    · obtain ⟨-, o1, o2, o3⟩ := ob b' b1 b2 q
      obtain ⟨J, fL', fE', fA', fU', fM', P', l', q0, ql⟩ := hBB b' b1 b2
      refine ⟨J, fL', fE', fA', fU', fM', P', l', ?_, ?_⟩
      · show qB0 (qW Z m) b' (m 8 b') (m 51 b') (m 52 b') J fL' fE' fA' fU' fM' P' l'
        rw [l8, l51, l52]
        have J80 := q0.1
        refine qB0_w (S' := qW Z m) q0 kp (M54.2 b' q) (fun j j1 j2 => krK b' j b1 (by omega) (Or.inl q)) (fun N' T' rc => rcK _ N' T' rc) pwK fun z i hz => ?_
        show m z i = zm S z i
        rcases hz with ⟨r, -⟩ | r | r | ⟨j, j1, j2, z1, z2⟩
        · rw [r, o1]
        · rw [r, o2]
        · rw [r, o3]
        · rw [words b' b1 b2 J fL' fE' fA' fU' fM' P' l' q0 j j1 (by omega) z z1 z2]
      · show qBl m b' (m 51 b') (m 52 b') J fL' fE' fA' fU' fM'
        rw [l51, l52]
        exact qBl_e ql lay (l37 53 (by omega)) (l37 63 (by omega)) (l37 50 (by omega)) (l37 51 (by omega))
  have kYC : qYC (qW Z m) := by
    refine ⟨fun b' b1 b2 => ?_, fun k k1 k2 => ?_, ?_, fun i i1 i2 => ?_, fun k k1 k2 => ?_⟩
    · have b2 : b' < m 37 16 := b2
      rw [e16] at b2
      show m (m 8 b') 13 = qbn m b' (m 37 65).toNat
      rw [l8, e65, qbn_e l82, ← hYC.1 b' b1 b2]
      by_cases q : b' = b
      · rw [q, h8, xj 13 (by omega)]
      · rw [(ob b' b1 b2 q).2.1]
    · have k2 : k < m 37 65 := k2
      rw [e65] at k2
      obtain ⟨b', x', y', w', t', P', q⟩ := hYC.2.1 k k1 k2
      have q0 := q
      obtain ⟨⟨f1, f2, f3, f4, f5, f6⟩, ⟨g1, g2, g3, g4, g5, g6⟩, ⟨h1, h2, h3, h4, h5⟩, -⟩ := q
      have ne : b' ≠ b := fun q => nb k k1 k2 (by rw [f1, q])
      obtain ⟨-, o1, o2, o3⟩ := ob b' g1 g2 ne
      rw [f2] at o1 o2 o3
      have m1 := qknn h1
      have m2 := qknn h2
      have m3 := qknn h3
      have y1 : m y' = zm S y' := hi _ h4 (by omega) (fun q => by rw [q] at m1; omega) (fun q => by rw [q] at m1; omega) (fun q => by rw [q] at m1; omega) (fun q => by rw [q] at m1; omega) (fun q => by rw [q] at m1; omega)
      have nx1 : y' + 1 ≠ x + 2 := fun q => by rw [show y' = x + 1 by omega] at m1; omega
      exact ⟨b', x', y', w', t', P', qCq_w (S' := qW Z m) q0 kp (by show m 82 k = _; rw [l82]) (by show m 8 b' = _; rw [l8]) (by show m 13 k = _; rw [l13]) (by show m 51 b' = _; rw [l51]) (by show m 52 b' = _; rw [l52]) (M54.2 b' ne) i16 (fun p _ _ => by show m 85 _ = _; rw [l85]) (fun p _ _ => by show m 83 _ = _; rw [l83]) (by show m x' 9 = _; rw [o1]) o3 (fun j _ => by show m y' j = _; rw [y1]) (hi _ (by omega) (by omega) (fun q => by rw [q] at m2; omega) (fun q => by rw [q] at m2; omega) nx1 (fun q => by rw [q] at m2; omega) (fun q => by rw [q] at m2; omega)) (hi _ (by omega) (by omega) (fun q => by rw [q] at m3; omega) (fun q => by rw [q] at m3; omega) (fun q => by rw [q] at m3; omega) (fun q => by rw [q] at m3; omega) (fun q => by rw [q] at m3; omega)) (by show m 84 k = _; rw [lo2 84 (by decide) (by decide) (by decide)])⟩
    · show m 37 73 = qst_ m (m 37 65).toNat
      rw [e73, e65, hYC.2.2.1]
      refine (qst_e _ fun i hi' => ?_).symm
      have hbi := (p4.2.1 i (Int.natCast_nonneg i) (by have := p4.1.2; omega)).2.2.1
      have ne := nb i (Int.natCast_nonneg i) (by have := p4.1.2; omega)
      unfold qsh
      rw [l82, l53, l8, (ob _ hbi.1 hbi.2 ne).2.1]
    · have i1 : 160 * m 37 65 ≤ i := i1
      rw [e65] at i1
      show m 85 i = 0
      rw [l85]
      exact hYC.2.2.2.1 i i1 i2
    · have k1 : m 37 65 ≤ k := k1
      rw [e65] at k1
      show m 88 k = 0
      rw [l88]
      exact hYC.2.2.2.2 k k1 k2
  have kFc : qFc (qW Z m) := by
    refine ⟨by show -1 ≤ m 37 75 ∧ m 37 75 < m 37 65; rw [e75, e65]; exact hFc.1, fun k b' x' w' t' P' k1 k2 k3 k4 k5 k6 k7 => ?_⟩
    have k1 : m 37 75 = k := k1
    have k3 : m 82 k = b' := k3
    have k4 : m 8 b' = x' := k4
    have k5 : m 51 b' = w' := k5
    have k6 : m 52 b' = t' := k6
    have k7 : m x' 9 = P' := k7
    rw [e75] at k1
    rw [l82] at k3
    rw [l8] at k4
    rw [l51] at k5
    rw [l52] at k6
    have klt : k < zm S 37 65 := by rw [← k1]; exact hFc.1.2
    have hbi := (p4.2.1 k k2 klt).2.2.1
    rw [k3] at hbi
    have ne : b' ≠ b := fun q => nb k k2 klt (by rw [k3, q])
    obtain ⟨-, o1, -, o3⟩ := ob b' hbi.1 hbi.2 ne
    rw [k4] at o1 o3
    rw [o1] at k7
    intro p l c p1 p2 l1 l2 c1 c2
    show m 89 _ = qfwx (m (x' + 2)) (fun q => m 83 (6 * k + q)) 6 _
    rw [l89, o3, l83]
    exact hFc.2 k b' x' w' t' P' k1 k2 k3 k4 k5 k6 k7 p l c p1 p2 l1 l2 c1 c2
  exact ⟨⟨⟨⟨qK_g hK hn Zk, kP, kL, by rw [qnW]; omega⟩, ⟨kT, kC, kD, kK⟩, ⟨kYn, kYd, kYw, kYp, kYr, kYh⟩, kYb⟩, kBB⟩, kYC, kFc⟩
end
