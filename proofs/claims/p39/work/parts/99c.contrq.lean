/-! What a code knows stays when another one takes a contraction. -/
theorem qCy_T {S : zS} {a N : Int} {T T' : Int → Int → Int} (h : qCy S a N T) (hN : N ≤ 24) (e : ∀ i k, 0 ≤ i → i ≤ 10 → 0 ≤ k → k < N → T' i k = T i k) : qCy S a N T' := by
  obtain ⟨z1, ⟨v1, v2, v3, v4, v5⟩, z3, z4⟩ := h
  refine ⟨z1, ⟨v1, v2, v3, v4, fun k k1 k2 => ?_⟩, fun k k1 k2 => ?_, z4⟩
  · obtain ⟨u1, u2, u3, u4, u5, u6, u7, u8, u9, u10⟩ := v5 k k1 k2
    have e0 := e 0 k (by decide) (by decide) k1 k2
    have e1 := e 1 k (by decide) (by decide) k1 k2
    have e2 := e 2 k (by decide) (by decide) k1 k2
    have e3 := e 3 k (by decide) (by decide) k1 k2
    have e4 := e 4 k (by decide) (by decide) k1 k2
    refine ⟨u1, u2, by rw [e0]; exact u3, by rw [e1]; exact u4, by rw [e2]; exact u5, by rw [e3]; exact u6, by rw [e4]; exact u7, by rw [e0]; exact u8, by rw [e2]; exact u9, fun j j1 j2 => ?_⟩
    rw [e0] at j2
    rw [e (5 + j) k (by omega) (by omega) k1 k2]
    exact u10 j j1 j2
  · obtain ⟨w1, w2, w3, w4, w5, w6⟩ := z3 k k1 k2
    have e0 := e 0 k (by decide) (by decide) k1 k2
    have e1 := e 1 k (by decide) (by decide) k1 k2
    have e2 := e 2 k (by decide) (by decide) k1 k2
    have e3 := e 3 k (by decide) (by decide) k1 k2
    have e4 := e 4 k (by decide) (by decide) k1 k2
    refine ⟨by rw [e0]; exact w1, by rw [e1]; exact w2, by rw [e2]; exact w3, by rw [e3]; exact w4, by rw [e4]; exact w5, fun j j1 j2 => ?_⟩
    rw [e0] at j2
    rw [e (5 + j) k (by omega) (by omega) k1 k2]
    exact w6 j j1 j2
/-- all but two rows stay -/
def qGc (S S' : zS) (b : Int) : Prop := zn S ≤ zn S' ∧ (∀ x : Int, x < zn S → zk S' x = zk S x) ∧ zk S b = (22, 0) ∧ zk S (b + 1) = (12, 24) ∧ ∀ x : Int, 103 ≤ x → x < zn S → x ≠ b → x ≠ b + 1 → zm S' x = zm S x
/-- a row of a kind that is neither a code nor its list -/
theorem qGc_k {S S' : zS} {b : Int} (g : qGc S S' b) {x : Int} {k : Nat × Int} (h0 : 103 ≤ x) (h1 : x < zn S) (hk : zk S x = k) (n1 : k ≠ (22, 0)) (n2 : k ≠ (12, 24)) : zm S' x = zm S x :=
  g.2.2.2.2 x h0 h1 (fun z => n1 (by rw [← hk, z]; exact g.2.2.1)) fun z => n2 (by rw [← hk, z]; exact g.2.2.2.1)
/-- a contraction stays -/
theorem qCt_h {S S' : zS} {b x : Int} {T : Int → Int → Int} {k : Int} (h : qCt S x T k) (hz : 103 ≤ x ∧ x + 2 ≤ zn S ∧ zm S x 0 = x + 1) (g : qGc S S' b) : qCt S' x T k ∧ zm S' x = zm S x := by
  obtain ⟨u1, u2, u3, u4, u5, u6, u7, u8, u9, u10⟩ := h
  rw [hz.2.2] at u2
  have hx := qGc_k g hz.1 (by omega) u1 (by decide) (by decide)
  have hl := qGc_k g (x := x + 1) (by omega) (by omega) u2 (by decide) (by decide)
  refine ⟨⟨by rw [g.2.1 _ (by omega)]; exact u1, ?_, by rw [hx]; exact u3, by rw [hx]; exact u4, by rw [hx]; exact u5, by rw [hx]; exact u6, by rw [hx]; exact u7, u8, u9, fun j j1 j2 => ?_⟩, hx⟩
  · rw [hx, hz.2.2, g.2.1 _ (by omega)]
    exact u2
  · have u := u10 j j1 j2
    rw [hz.2.2] at u
    rw [hx, hz.2.2, hl]
    exact u
theorem qCy_o {S S' : zS} {a b N : Int} {T : Int → Int → Int} (h : qCy S a N T) (g : qGc S S' b) (hab : a ≠ b) : qCy S' a N T := by
  obtain ⟨z1, z2, z3, z4⟩ := h
  obtain ⟨k0, k1, k2, k3, k4, p0, p2, p3, p30, b1, b2⟩ := z1
  obtain ⟨v1, v2, v3, v4, v5⟩ := z2
  obtain ⟨g1, g2, g3, g4, g5⟩ := g
  have ea : zm S' a = zm S a := g5 a b1 (by omega) hab fun z => by rw [z, g4] at k0; revert k0; decide
  have ea1 : zm S' (a + 1) = zm S (a + 1) := g5 (a + 1) (by omega) (by omega) (fun z => by rw [z, g3] at k1; revert k1; decide) (by omega)
  have ea3 : zm S' (a + 3) = zm S (a + 3) := g5 (a + 3) (by omega) (by omega) (fun z => by rw [z, g3] at k3; revert k3; decide) (fun z => by rw [z, g4] at k3; revert k3; decide)
  refine ⟨⟨by rw [g2 _ (by omega)]; exact k0, by rw [g2 _ (by omega)]; exact k1, by rw [g2 _ (by omega)]; exact k2, by rw [g2 _ (by omega)]; exact k3, by rw [g2 _ (by omega)]; exact k4, by rw [ea]; exact p0, by rw [ea]; exact p2, by rw [ea]; exact p3, by rw [ea3]; exact p30, b1, by omega⟩, ⟨by rw [g2 _ (by omega)]; exact v1, by rw [ea, p0, g2 _ (by omega)]; exact k1, by rw [ea]; exact v3, v4, fun k k5 k6 => ?_⟩, z3, fun k k5 k6 => ?_⟩
  · have v6 := v5 k k5 k6
    rw [p0] at v6
    rw [ea, p0, ea1]
    exact (qCt_h v6 (z4 k k5 k6) ⟨g1, g2, g3, g4, g5⟩).1
  · have v6 := v5 k k5 k6
    rw [p0] at v6
    have hz := z4 k k5 k6
    rw [ea1, (qCt_h v6 hz ⟨g1, g2, g3, g4, g5⟩).2]
    exact ⟨hz.1, by omega, hz.2.2⟩
/-- the code that takes it -/
theorem qCy_n {S S' : zS} {a K x : Int} {T : Int → Int → Int} (h : qCy S a K T) (g : qGc S S' a) (hK : K < 24) (hx : (zn S : Int) = x ∧ (x : Int) + 2 ≤ zn S') (r1 : ∀ j, j ≠ 1 → zm S' a j = zm S a j) (r2 : zm S' a 1 = K + 1) (r3 : ∀ j, j ≠ K → zm S' (a + 1) j = zm S (a + 1) j) (r4 : zm S' (a + 1) K = x) (r5 : zm S' x 0 = x + 1) (hc : qCt S' x T K) (ht : (2 ≤ T 0 K ∧ T 0 K ≤ 6) ∧ (1 ≤ T 1 K ∧ T 1 K ≤ 3) ∧ (0 ≤ T 2 K ∧ T 2 K ≤ 4) ∧ (0 < T 3 K ∧ T 3 K < 64) ∧ (0 ≤ T 4 K ∧ T 4 K < 64) ∧ ∀ j, 0 ≤ j → j < T 0 K → 0 ≤ T (5 + j) K ∧ T (5 + j) K < 26) (h3 : 103 ≤ x) : qCy S' a (K + 1) T := by
  obtain ⟨z1, z2, z3, z4⟩ := h
  obtain ⟨k0, k1, k2, k3, k4, p0, p2, p3, p30, b1, b2⟩ := z1
  obtain ⟨v1, v2, v3, v4, v5⟩ := z2
  obtain ⟨g1, g2, g3, g4, g5⟩ := g
  have ea3 : zm S' (a + 3) = zm S (a + 3) := g5 (a + 3) (by omega) (by omega) (by omega) (by omega)
  refine ⟨⟨by rw [g2 _ (by omega)]; exact k0, by rw [g2 _ (by omega)]; exact k1, by rw [g2 _ (by omega)]; exact k2, by rw [g2 _ (by omega)]; exact k3, by rw [g2 _ (by omega)]; exact k4, by rw [r1 0 (by decide)]; exact p0, by rw [r1 2 (by decide)]; exact p2, by rw [r1 3 (by decide)]; exact p3, by rw [ea3]; exact p30, b1, by omega⟩, ⟨by rw [g2 _ (by omega)]; exact v1, by rw [r1 0 (by decide), p0, g2 _ (by omega)]; exact k1, r2, by omega, fun k k5 k6 => ?_⟩, fun k k5 k6 => ?_, fun k k5 k6 => ?_⟩
  · rw [r1 0 (by decide), p0]
    by_cases q : k = K
    · rw [q, r4]
      exact hc
    · have v6 := v5 k k5 (by omega)
      rw [p0] at v6
      rw [r3 k q]
      exact (qCt_h v6 (z4 k k5 (by omega)) ⟨g1, g2, g3, g4, g5⟩).1
  · by_cases q : k = K
    · rw [q]
      exact ht
    · exact z3 k k5 (by omega)
  · by_cases q : k = K
    · rw [q, r4, r5]
      exact ⟨h3, hx.2, rfl⟩
    · have v6 := v5 k k5 (by omega)
      rw [p0] at v6
      have hz := z4 k k5 (by omega)
      rw [r3 k q, (qCt_h v6 hz ⟨g1, g2, g3, g4, g5⟩).2]
      exact ⟨hz.1, by omega, hz.2.2⟩
