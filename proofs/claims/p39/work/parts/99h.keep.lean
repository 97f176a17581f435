/-! What stays when states grow or rows are written. -/
def qKp (S S2 : zS) : Prop := zn S ≤ zn S2 ∧ ∀ x : Int, x < zn S → zk S2 x = zk S x
theorem qKp_w (S : zS) (m : Int → Int → Int) : qKp S (qW S m) := ⟨Nat.le_refl _, fun _ _ => rfl⟩
theorem qKp_g {S S2 : zS} {n c w : Nat} {E : Int → Int → Prop} (h : qGw S S2 n c w E) : qKp S S2 := ⟨by have := h.1; omega, h.2.2.2.1⟩
theorem qCy_w {S S' : zS} {a N : Int} {T : Int → Int → Int} (h : qCy S a N T) (g : qKp S S') (ea : zm S' a = zm S a) (ea1 : zm S' (a + 1) = zm S (a + 1)) (ea3 : zm S' (a + 3) 0 = zm S (a + 3) 0) (ex : ∀ k, 0 ≤ k → k < N → zm S' (zm S (a + 1) k) = zm S (zm S (a + 1) k) ∧ zm S' (zm S (a + 1) k + 1) = zm S (zm S (a + 1) k + 1)) : qCy S' a N T := by
  obtain ⟨z1, z2, z3, z4⟩ := h
  obtain ⟨g1, g2⟩ := g
  obtain ⟨k0, k1, k2, k3, k4, p0, p2, p3, p30, b1, b2⟩ := z1
  obtain ⟨v1, v2, v3, v4, v5⟩ := z2
  refine ⟨⟨by rw [g2 _ (by omega)]; exact k0, by rw [g2 _ (by omega)]; exact k1, by rw [g2 _ (by omega)]; exact k2, by rw [g2 _ (by omega)]; exact k3, by rw [g2 _ (by omega)]; exact k4, by rw [ea]; exact p0, by rw [ea]; exact p2, by rw [ea]; exact p3, by rw [ea3]; exact p30, b1, by omega⟩, ⟨by rw [g2 _ (by omega)]; exact v1, by rw [ea, p0, g2 _ (by omega)]; exact k1, by rw [ea]; exact v3, v4, fun k k5 k6 => ?_⟩, z3, fun k k5 k6 => ?_⟩
  · have v6 := v5 k k5 k6
    have hz := z4 k k5 k6
    rw [p0] at v6
    rw [ea, p0, ea1]
    obtain ⟨hx, hy⟩ := ex k k5 k6
    obtain ⟨u1, u2, u3, u4, u5, u6, u7, u8, u9, u10⟩ := v6
    refine ⟨by rw [g2 _ (by omega)]; exact u1, ?_, by rw [hx]; exact u3, by rw [hx]; exact u4, by rw [hx]; exact u5, by rw [hx]; exact u6, by rw [hx]; exact u7, u8, u9, fun j j1 j2 => ?_⟩
    · rw [hx, hz.2.2, g2 _ (by omega)]
      rw [hz.2.2] at u2
      exact u2
    · have u := u10 j j1 j2
      rw [hz.2.2] at u
      rw [hx, hz.2.2, hy]
      exact u
  · have hz := z4 k k5 k6
    rw [ea1, (ex k k5 k6).1]
    exact ⟨hz.1, by omega, hz.2.2⟩
theorem qRC_w {S S' : zS} (h : qRC S) (g : qKp S S') (h32 : zm S' 3 2 = zm S 3 2) (h4 : zm S' 37 4 = zm S 37 4) (h6 : zm S' 6 = zm S 6) (h39 : ∀ x, 39 ≤ x → x ≤ 45 → zm S' x = zm S x)
    (hk : ∀ x : Int, 103 ≤ x → x < zn S → (zk S x = (22, 0) ∨ zk S x = (12, 24) ∨ zk S x = (23, 0) ∨ zk S x = (0, 6)) → zm S' x = zm S x) (hk2 : ∀ x : Int, 103 ≤ x → x < zn S → zk S x = (28, 0) → zm S' x 0 = zm S x 0) : qRC S' := by
  have cy := fun i i1 i2 => qRC_1 h (c := i) i1 i2
  obtain ⟨r1, r2, -, r4, r5⟩ := h
  have e39 := h39 39 (by decide) (by decide)
  refine ⟨by rw [h32, h4]; exact r1, by rw [h4]; exact r2, fun i i1 i2 => ?_, fun i k i1 i2 k2 => ?_, fun i i1 i2 => ?_⟩
  · rw [h4] at i2
    show qCy S' (zm S' 6 i) (zm S' 39 i) (qTm (zm S') i)
    rw [h6, e39, qTm_e h39]
    have c0 := cy i i1 i2
    obtain ⟨⟨k0, k1, k2, k3, k4, p0, p2, p3, p30, b1, b2⟩, ⟨v1, v2, v3, v4, v5⟩, z3, z4⟩ := c0
    refine qCy_w (cy i i1 i2) g (hk _ b1 (by omega) (Or.inl k0)) (hk _ (by omega) (by omega) (Or.inr (Or.inl k1))) (hk2 _ (by omega) (by omega) k3) fun k k5 k6 => ?_
    have v6 := v5 k k5 k6
    have hz := z4 k k5 k6
    rw [p0] at v6
    obtain ⟨u1, u2, -⟩ := v6
    rw [hz.2.2] at u2
    exact ⟨hk _ hz.1 (by omega) (Or.inr (Or.inr (Or.inl u1))), hk _ (by omega) (by omega) (Or.inr (Or.inr (Or.inr u2)))⟩
  · rw [h4] at k2
    rw [h6]
    exact r4 i k i1 i2 k2
  · rw [h4] at i1
    rw [e39]
    exact r5 i i1 i2
/-- one divided word of both -/
def qDy (S : zS) (a P n : Int) (g : Int → Int) : Prop := qDb S a ∧ qDv S a P n ∧ (0 < n ∧ n ≤ 10) ∧ (∀ j, 0 ≤ j → j < n → g j = zm S (a + 1) j + 97) ∧ (qpl P n n.toNat).length ≤ 4
theorem qDy_w {S S2 : zS} {a P n : Int} {g : Int → Int} (h : qDy S a P n g) (k : qKp S S2) (e : ∀ x, a ≤ x → x ≤ a + 2 → zm S2 x = zm S x) : qDy S2 a P n g := by
  obtain ⟨⟨q0, q1, q2, p0, p2, b1, b2⟩, ⟨v1, v2, v3, v4, v5, v6, v7, v8⟩, z3, z4, z5⟩ := h
  obtain ⟨g1, g2⟩ := k
  have ea := e a (by omega) (by omega)
  have ea1 := e (a + 1) (by omega) (by omega)
  have ea2 := e (a + 2) (by omega) (by omega)
  refine ⟨⟨by rw [g2 _ (by omega)]; exact q0, by rw [g2 _ (by omega)]; exact q1, by rw [g2 _ (by omega)]; exact q2, by rw [ea]; exact p0, by rw [ea]; exact p2, b1, by omega⟩, ?_, z3, fun j j1 j2 => by rw [ea1]; exact z4 j j1 j2, z5⟩
  rw [p2] at v3 v5 v6 v7 v8
  unfold qDv
  rw [ea, p2, ea2]
  exact ⟨by rw [g2 _ (by omega)]; exact v1, v2, by rw [g2 _ (by omega)]; exact v3, v4, v5, v6, v7, v8⟩
theorem qRD_1 {S : zS} (h : qRD S) {k : Int} (h0 : 0 ≤ k) (h1 : k < zm S 37 12) : qDy S (zm S 7 k) (zm S 48 k) (zm S 47 k) (fun j => zm S 46 (10 * k + j)) := h.2.2.1 k h0 h1
theorem qRD_w {S S2 : zS} (h : qRD S) (g : qKp S S2) (h34 : zm S2 3 4 = zm S 3 4) (h12 : zm S2 37 12 = zm S 37 12) (h7 : zm S2 7 = zm S 7) (h46 : zm S2 46 = zm S 46) (h47 : zm S2 47 = zm S 47) (h48 : zm S2 48 = zm S 48) (o : ∀ i, 0 ≤ i → i < zm S 37 12 → ∀ x, zm S 7 i ≤ x → x ≤ zm S 7 i + 2 → zm S2 x = zm S x) : qRD S2 := by
  have dy := fun i i1 i2 => qRD_1 h (k := i) i1 i2
  obtain ⟨r1, r2, -, r4⟩ := h
  refine ⟨by rw [h34, h12]; exact r1, by rw [h12]; exact r2, fun i i1 i2 => ?_, fun i k i1 i2 k2 => ?_⟩
  · rw [h12] at i2
    show qDy S2 (zm S2 7 i) (zm S2 48 i) (zm S2 47 i) (fun j => zm S2 46 (10 * i + j))
    rw [h7, h46, h47, h48]
    exact qDy_w (dy i i1 i2) g (o i i1 i2)
  · rw [h12] at k2
    rw [h46, h47]
    exact r4 i k i1 i2 k2
theorem qRT_w {S S2 : zS} (h : qRT S) (h4 : zm S2 4 1 = zm S 4 1) (h5 : zm S2 5 = zm S 5) (h2 : zm S2 37 2 = zm S 37 2) (h38 : zm S2 38 = zm S 38) : qRT S2 := by
  unfold qRT
  rw [h4, h5, h2, h38]
  exact h
theorem qBh_w {S S2 : zS} (h : qBh S) (g : qKp S S2) (h36 : zm S2 3 6 = zm S 3 6) (h16 : zm S2 37 16 = zm S 37 16) (h8 : zm S2 8 = zm S 8) (h49 : zm S2 49 = zm S 49) (h54 : zm S2 54 = zm S 54) (h4 : zm S 37 4 ≤ zm S2 37 4) (h6 : ∀ c, 0 ≤ c → c < zm S 37 4 → zm S2 6 c = zm S 6 c)
    (o : ∀ x : Int, 103 ≤ x → x < zn S → zk S x = (20, 0) → zm S2 x 1 = zm S x 1 ∧ zm S2 x 7 = zm S x 7) : qBh S2 := by
  obtain ⟨b1, b2, b3⟩ := h
  obtain ⟨g1, g2⟩ := g
  refine ⟨by rw [h36, h16]; exact b1, by rw [h16]; exact b2, fun i i1 i2 => ?_⟩
  rw [h16] at i2
  obtain ⟨c1, c2, c3, c4, c5⟩ := b3 i i1 i2
  obtain ⟨o1, o2⟩ := o _ c2.1 c2.2 c1
  rw [h8, h49, h54, o1, o2, h6 _ c4.1 c4.2, g2 _ c2.2]
  exact ⟨c1, ⟨c2.1, by omega⟩, c3, ⟨c4.1, by omega⟩, c5⟩
theorem qBh_q {S : zS} {m' : Int → Int → Int} (h : qRC S) (hB : qBh S) (hf : qFq S m') : qBh (qW S m') := by
  refine qBh_w hB (qKp_w S m') (hf 3 6 (qns h (by decide) (by unfold qscf; omega))) (qFq_37 h hf 16 (by unfold qscf; omega)) (qFq_x h hf (by decide) fun j => by unfold qscf; omega) (qFq_x h hf (by decide) fun j => by unfold qscf; omega) (qFq_x h hf (by decide) fun j => by unfold qscf; omega) (by rw [qmW, qFq_37 h hf 4 (by unfold qscf; omega)]; exact Int.le_refl _) (fun c _ _ => hf 6 c (qns h (by decide) (by unfold qscf; omega))) fun x x1 x2 kx => ?_
  have e : m' x = zm S x := qFq_y h hf x1 fun i i1 i2 => by
    obtain ⟨-, -, y2, y3, y4, -⟩ := (h.2.2.1 i i1 i2).1
    exact ⟨qkne kx y2 (by decide), qkne kx y3 (by decide), qkne kx y4 (by decide)⟩
  exact ⟨congrFun e 1, congrFun e 7⟩
