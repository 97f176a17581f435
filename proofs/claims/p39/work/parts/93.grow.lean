/-! States that grow: what is there stays. -/
def qGr (S S' : zS) : Prop := zn S ≤ zn S' ∧ (∀ x : Int, x < zn S → zk S' x = zk S x) ∧ ∀ x : Int, 103 ≤ x → x < zn S → zm S' x = zm S x
def qCy (S : zS) (a N : Int) (T : Int → Int → Int) : Prop := qCb S a ∧ qCo S a N T ∧ qTok T N ∧ ∀ k, 0 ≤ k → k < N → 103 ≤ zm S (a + 1) k ∧ zm S (a + 1) k + 2 ≤ zn S ∧ zm S (zm S (a + 1) k) 0 = zm S (a + 1) k + 1
theorem qCy_g {S S' : zS} {a N : Int} {T : Int → Int → Int} (h : qCy S a N T) (g : qGr S S') : qCy S' a N T := by
  obtain ⟨z1, z2, z3, z4⟩ := h
  obtain ⟨g1, g2, g3⟩ := g
  obtain ⟨k0, k1, k2, k3, k4, p0, p2, p3, p30, b1, b2⟩ := z1
  obtain ⟨v1, v2, v3, v4, v5⟩ := z2
  have ea := g3 a b1 (by omega)
  have ea1 := g3 (a + 1) (by omega) (by omega)
  have ea3 := g3 (a + 3) (by omega) (by omega)
  refine ⟨⟨by rw [g2 _ (by omega)]; exact k0, by rw [g2 _ (by omega)]; exact k1, by rw [g2 _ (by omega)]; exact k2, by rw [g2 _ (by omega)]; exact k3, by rw [g2 _ (by omega)]; exact k4, by rw [ea]; exact p0, by rw [ea]; exact p2, by rw [ea]; exact p3, by rw [ea3]; exact p30, b1, by omega⟩, ⟨by rw [g2 _ (by omega)]; exact v1, by rw [ea, p0, g2 _ (by omega)]; exact k1, by rw [ea]; exact v3, v4, fun k k5 k6 => ?_⟩, z3, fun k k5 k6 => ?_⟩
  · have v6 := v5 k k5 k6
    have hz := z4 k k5 k6
    rw [p0] at v6
    rw [ea, p0, ea1]
    have hx := g3 (zm S (a + 1) k) hz.1 (by omega)
    obtain ⟨u1, u2, u3, u4, u5, u6, u7, u8, u9, u10⟩ := v6
    refine ⟨by rw [g2 _ (by omega)]; exact u1, ?_, by rw [hx]; exact u3, by rw [hx]; exact u4, by rw [hx]; exact u5, by rw [hx]; exact u6, by rw [hx]; exact u7, u8, u9, fun j j1 j2 => ?_⟩
    · rw [hx, hz.2.2, g2 _ (by omega)]
      rw [hz.2.2] at u2
      exact u2
    · have u := u10 j j1 j2
      rw [hz.2.2] at u
      rw [hx, hz.2.2, g3 _ (by omega) (by omega)]
      exact u
  · have hz := z4 k k5 k6
    rw [ea1, g3 _ hz.1 (by omega)]
    exact ⟨hz.1, by omega, hz.2.2⟩
theorem qRC_1 {S : zS} (h : qRC S) {c : Int} (h0 : 0 ≤ c) (h1 : c < zm S 37 4) : qCy S (zm S 6 c) (zm S 39 c) (qTm (zm S) c) := h.2.2.1 c h0 h1
def qz (m : Int → Int → Int) (N : Int) : Int → Int → Int := fun b i => if b = N then 0 else m b i
theorem qz_o (m : Int → Int → Int) {N x : Int} (h : x ≠ N) : qz m N x = m x := by
  funext i
  exact if_neg h
theorem qz_s (m : Int → Int → Int) (N i : Int) : qz m N N i = 0 := if_pos rfl
theorem qalW (S : zS) (m : Int → Int → Int) (t : Nat) (l : Int) (w : Nat) : zalloc (qW S m) t l w = qW (zalloc S t l w) (qz m (zn S)) := rfl
theorem qal_n (S : zS) (t : Nat) (l : Int) (w : Nat) : ((zn (zalloc S t l w) : Nat) : Int) = (zn S : Int) + 1 := rfl
theorem qal_k (S : zS) (t : Nat) (l : Int) (w : Nat) (a : Int) : zk (zalloc S t l w) a = if a = (zn S : Int) then (t, l) else zk S a := rfl
theorem qal_s (S : zS) (t : Nat) (l : Int) (w : Nat) : zk (zalloc S t l w) (zn S) = (t, l) := if_pos rfl
theorem qal_e (S : zS) (t : Nat) (l : Int) (w : Nat) {a : Int} (h : a = zn S) : zk (zalloc S t l w) a = (t, l) := if_pos h
theorem qal_o (S : zS) (t : Nat) (l : Int) (w : Nat) {a : Int} (h : a ≠ zn S) : zk (zalloc S t l w) a = zk S a := if_neg h
theorem qal_m (S : zS) (t : Nat) (l : Int) (w : Nat) : zm (zalloc S t l w) = qz (zm S) (zn S) := rfl
/-- a code is made -/
theorem s_codeInit (d : Nat) (S : zS) (a N : Int) (h : 2 ≤ d) (ha : zk S a = (22, 0)) (h0 : 0 < a ∧ a < N) (hN : (zn S : Int) = N) :
    ∃ S', zD d 16 [vr a] S = some (.inl none, S') ∧ (zn S' : Int) = N + 4 ∧ zc S' = zc S + 4 ∧ zw S' = zw S + 57 ∧
      (∀ x, zk S' x = if x = N + 3 then (0, 10) else if x = N + 2 then (28, 0) else if x = N + 1 then (1, 17) else if x = N then (12, 24) else zk S x) ∧
      zm S' = qu (qu (qz (qz (qu (qz (qu (qz (zm S) N) a 0 N) (N + 1)) a 2 (N + 1)) (N + 2)) (N + 3)) (N + 2) 0 (N + 3)) a 3 (N + 2) := by
  obtain ⟨e, rfl, h1⟩ := qd h
  obtain ⟨f, rfl, h2⟩ := qd h1
  subst hN
  refine ⟨qW (zalloc (zalloc (zalloc (zalloc S 12 24 24) 1 17 17) 28 0 6) 0 10 10) (qu (qu (qz (qz (qu (qz (qu (qz (zm S) (zn S)) a 0 (zn S)) (zn S + 1)) a 2 (zn S + 1)) (zn S + 2)) (zn S + 3)) (zn S + 2) 0 (zn S + 3)) a 3 (zn S + 2)), ?_, by show ((zn S + 1 + 1 + 1 + 1 : Nat) : Int) = (zn S : Int) + 4; omega, rfl, rfl, fun x => rfl, rfl⟩
  have k28 : zk (zalloc (zalloc (zalloc S 12 24 24) 1 17 17) 28 0 6) ((zn S : Int) + 1 + 1) = (28, 0) := if_pos rfl
  have k29 : zk (zalloc (zalloc (zalloc (zalloc S 12 24 24) 1 17 17) 28 0 6) 0 10 10) ((zn S : Int) + 1 + 1) = (28, 0) := (if_neg (by show ¬ (zn S : Int) + 1 + 1 = ((zn S + 1 + 1 + 1 : Nat) : Int); omega)).trans k28
  simp (config := { maxSteps := 2000000 }) (disch := first | omega | (simp only [k28, k29, qal_n, ha, qal_e, qal_o, qb_in, qkW, qmW, qnW, true_and, and_true, or_self, true_or, or_true, and_self]; done) | (simp only [k28, k29, qal_n, ha, qal_e, qal_o, qb_in, qkW, qmW, qnW, true_and, and_true, or_self, true_or, or_true, and_self]; omega)) only [zD_16, b16_0, b16_13, b16_21, b16_29, zD_81, b81_0, b81_12, qcall_l, qcall_r, qretn_l, qJ_s, qJ_n, qV0, qEx, ↓qif0, ↓zchk_pos, ↓reduceIte, qput, qWW, qmW, qkW, qnW, k28, k29, qalW, qal_n, qal_o, qal_e, qal_m, ha, Int.reduceToNat]
  rfl
