/-! Questions that write nothing, or on the class's own paper alone. -/
theorem a_pure {b : Bool} {e y : Nat} {as : List zV} (u : hU1 b e y as) (hp : zinl zPUl y = true) : hA1 b e y as := fun V W hx hV => by
  obtain ⟨y', ps, c1, c2, ha, hps, u⟩ := u
  obtain ⟨o, v, S1, T, S2, r1, -, -, -, -, -, al⟩ := u V hV
  have oo : hO o := by
    rcases al with ⟨rfl, -⟩ | ⟨x, rfl, -⟩
    · exact gl_O b v
    · exact trivial
  obtain ⟨p, s⟩ := h_pure c1 hp ha oo r1
  rcases al with ⟨rfl, -⟩ | ⟨x, rfl, e0, e1⟩
  · rcases p with ⟨v', -, q⟩ | ⟨x, h, -⟩
    · rw [q] at r1 s
      exact ⟨_, _, _, r1, Or.inl ⟨v, rfl, rfl, rfl⟩, s, hD.rf hV⟩
    · cases h
  · rcases p with ⟨v', h, -⟩ | ⟨x', -, q⟩
    · cases h
    · rw [q] at r1 s
      exact ⟨_, _, _, r1, Or.inr ⟨⟨x, rfl, hps x e1⟩, rfl, rfl⟩, s, hD.b hV⟩
theorem a_cls {b : Bool} {e y : Nat} {as : List zV} (c1 : zC1 y = true) (ha : hN as) (u : ∀ V, qHC V → (∃ v m, zD e y (vr 3 :: as) V = some (.inl (some (gl b v)), qW V m) ∧ qFq V m) ∨ ∃ x, zD e y (vr 3 :: as) V = some (.inr x, zbump V) ∧ (x = 0 ∨ x = 1 ∨ x = 2)) : hA1 b e y as := fun V W hx hV => by
  obtain ⟨Z, a, b', hh⟩ := hx
  rcases u V hV with ⟨v, m, r, f⟩ | ⟨x, r, hx⟩
  · obtain ⟨a1, a2, a3, a4, a5, a6, a7, a8, a9⟩ := h_seen hh hV c1 ha (gl_O b v) r
    refine ⟨_, _, qW V m, r, Or.inl ⟨v, rfl, rfl, rfl⟩, h_cls c1 ha (gl_O b v) r, (q5_ff hV f).1.1, Nat.le_refl _, fun x hx => ?_, a7⟩
    rcases hx with hx | rfl
    · exact a6 x hx
    · exact a8 102 (by decide) (by decide)
  · exact ⟨_, _, zbump V, r, Or.inr ⟨⟨x, rfl, hx⟩, rfl, rfl⟩, h_cls (o := .inr x) c1 ha trivial r, hD.b hV⟩
/-- what is told of a copy -/
def qcp (S : zS) (k a v : Int) : Prop := (a = 0 → v = zm S 82 k) ∧ (a = 1 → v = zm S 84 k) ∧ (a = 2 → ∀ (b x y w t P : Int) (J : Nat), qCq S k b x y w t P → zm S 54 b = (J : Int) → v = qmis (qQj S k b x w t) J) ∧ (a = 3 → v = qhp (zm S) k 160) ∧ (a = 4 → v = zm S 86 k) ∧ (a = 5 → v = zm S 87 k) ∧ (a = 6 → v = zm S 88 k)
theorem c_139_0 (e : Nat) (S : zS) (k : Int) (he : 15 ≤ e) (hH : qHC S) (c1 : 0 ≤ k ∧ k < zm S 37 65) : zD (e + 1) 139 [vr 3, vi k, vi 0] S = some (.inl (some (vi (zm S 82 k))), S) := by
  obtain ⟨⟨⟨⟨hK, hP, hL, hn⟩, ⟨hT, hC, hR, hkk⟩, ⟨p1, p2, p3, p4, p5, p6⟩, hY⟩, hBB⟩, hYC, hFc⟩ := id hH
  obtain ⟨b, x, y, w, t, P, q0⟩ := hYC.2.1 k c1.1 c1.2
  obtain ⟨⟨a1, a2, a3, a4, a5, a6⟩, ⟨b1, b2, b3, b4, b5, b6⟩, ⟨ky, ky1, ky2, y103, yn⟩, ⟨y2, y3, y4⟩, -⟩ := id q0
  have n65 := p4.1.2
  have k20 : k < 20 := by omega
  have co := s_copyOf_y e S k (by omega) hK hP p4.1 c1
  obtain ⟨-, yb, -, yx, y5, y6, y7, y8⟩ := p4.2.1 k c1.1 c1.2
  rw [a3] at co yb yx y5 y6 y7 y8
  rw [a1] at yb yx
  rw [a2] at yx
  have t37 := K_37 hK
  have hk0 := c1.1
  rw [a1]
  simp (config := { maxSteps := 2000000 }) (disch := first | omega | (simp only [K_3 hK, ky, qb_in, qkW, qmW, qnW, true_and, and_true, or_self, true_or, or_true, and_self]; done) | (simp only [K_3 hK, ky, qb_in, qkW, qmW, qnW, true_and, and_true, or_self, true_or, or_true, and_self]; omega)) only [zD_139, b139_0, b139_5, b139_48, b139_53, b139_58, b139_63, b139_64, b139_69, b139_74, b139_79, b139_84, i139, w139_7, qcall_l, qcall_r, qretn_l, qJ_s, qJ_n, qV0, qEx, ↓qif0, ↓zchk_pos, ↓reduceIte, qput, qWW, qmW, qkW, qnW, K_3 hK, co, Int.reduceEq, ky, yb]
theorem c_139_1 (e : Nat) (S : zS) (k : Int) (he : 15 ≤ e) (hH : qHC S) (c1 : 0 ≤ k ∧ k < zm S 37 65) : zD (e + 1) 139 [vr 3, vi k, vi 1] S = some (.inl (some (vi (zm S 84 k))), S) := by
  obtain ⟨⟨⟨⟨hK, hP, hL, hn⟩, ⟨hT, hC, hR, hkk⟩, ⟨p1, p2, p3, p4, p5, p6⟩, hY⟩, hBB⟩, hYC, hFc⟩ := id hH
  obtain ⟨b, x, y, w, t, P, q0⟩ := hYC.2.1 k c1.1 c1.2
  obtain ⟨⟨a1, a2, a3, a4, a5, a6⟩, ⟨b1, b2, b3, b4, b5, b6⟩, ⟨ky, ky1, ky2, y103, yn⟩, ⟨y2, y3, y4⟩, -⟩ := id q0
  have n65 := p4.1.2
  have k20 : k < 20 := by omega
  have co := s_copyOf_y e S k (by omega) hK hP p4.1 c1
  obtain ⟨-, yb, -, yx, y5, y6, y7, y8⟩ := p4.2.1 k c1.1 c1.2
  rw [a3] at co yb yx y5 y6 y7 y8
  rw [a1] at yb yx
  rw [a2] at yx
  have t37 := K_37 hK
  have hk0 := c1.1
  simp (config := { maxSteps := 2000000 }) (disch := first | omega | (simp only [K_3 hK, ky, qb_in, qkW, qmW, qnW, true_and, and_true, or_self, true_or, or_true, and_self]; done) | (simp only [K_3 hK, ky, qb_in, qkW, qmW, qnW, true_and, and_true, or_self, true_or, or_true, and_self]; omega)) only [zD_139, b139_0, b139_5, b139_48, b139_53, b139_58, b139_63, b139_64, b139_69, b139_74, b139_79, b139_84, i139, w139_7, qcall_l, qcall_r, qretn_l, qJ_s, qJ_n, qV0, qEx, ↓qif0, ↓zchk_pos, ↓reduceIte, qput, qWW, qmW, qkW, qnW, K_3 hK, co, Int.reduceEq, ky, y5]
theorem c_139_3 (e : Nat) (S : zS) (k : Int) (he : 15 ≤ e) (hH : qHC S) (c1 : 0 ≤ k ∧ k < zm S 37 65) : zD (e + 1) 139 [vr 3, vi k, vi 3] S = some (.inl (some (vi (qhp (zm S) k 160))), S) := by
  obtain ⟨⟨⟨⟨hK, hP, hL, hn⟩, ⟨hT, hC, hR, hkk⟩, ⟨p1, p2, p3, p4, p5, p6⟩, hY⟩, hBB⟩, hYC, hFc⟩ := id hH
  obtain ⟨b, x, y, w, t, P, q0⟩ := hYC.2.1 k c1.1 c1.2
  obtain ⟨⟨a1, a2, a3, a4, a5, a6⟩, ⟨b1, b2, b3, b4, b5, b6⟩, ⟨ky, ky1, ky2, y103, yn⟩, ⟨y2, y3, y4⟩, -⟩ := id q0
  have n65 := p4.1.2
  have k20 : k < 20 := by omega
  have co := s_copyOf_y e S k (by omega) hK hP p4.1 c1
  obtain ⟨-, yb, -, yx, y5, y6, y7, y8⟩ := p4.2.1 k c1.1 c1.2
  rw [a3] at co yb yx y5 y6 y7 y8
  rw [a1] at yb yx
  rw [a2] at yx
  have t37 := K_37 hK
  have hk0 := c1.1
  simp (config := { maxSteps := 2000000 }) (disch := first | omega | (simp only [K_3 hK, ky, qb_in, qkW, qmW, qnW, true_and, and_true, or_self, true_or, or_true, and_self]; done) | (simp only [K_3 hK, ky, qb_in, qkW, qmW, qnW, true_and, and_true, or_self, true_or, or_true, and_self]; omega)) only [zD_139, b139_0, b139_5, b139_48, b139_53, b139_58, b139_63, b139_64, b139_69, b139_74, b139_79, b139_84, i139, w139_7, qcall_l, qcall_r, qretn_l, qJ_s, qJ_n, qV0, qEx, ↓qif0, ↓zchk_pos, ↓reduceIte, qput, qWW, qmW, qkW, qnW, K_3 hK, co, Int.reduceEq, ky, y4]
theorem c_139_4 (e : Nat) (S : zS) (k : Int) (he : 15 ≤ e) (hH : qHC S) (c1 : 0 ≤ k ∧ k < zm S 37 65) : zD (e + 1) 139 [vr 3, vi k, vi 4] S = some (.inl (some (vi (zm S 86 k))), S) := by
  obtain ⟨⟨⟨⟨hK, hP, hL, hn⟩, ⟨hT, hC, hR, hkk⟩, ⟨p1, p2, p3, p4, p5, p6⟩, hY⟩, hBB⟩, hYC, hFc⟩ := id hH
  obtain ⟨b, x, y, w, t, P, q0⟩ := hYC.2.1 k c1.1 c1.2
  obtain ⟨⟨a1, a2, a3, a4, a5, a6⟩, ⟨b1, b2, b3, b4, b5, b6⟩, ⟨ky, ky1, ky2, y103, yn⟩, ⟨y2, y3, y4⟩, -⟩ := id q0
  have n65 := p4.1.2
  have k20 : k < 20 := by omega
  have co := s_copyOf_y e S k (by omega) hK hP p4.1 c1
  obtain ⟨-, yb, -, yx, y5, y6, y7, y8⟩ := p4.2.1 k c1.1 c1.2
  rw [a3] at co yb yx y5 y6 y7 y8
  rw [a1] at yb yx
  rw [a2] at yx
  have t37 := K_37 hK
  have hk0 := c1.1
  simp (config := { maxSteps := 2000000 }) (disch := first | omega | (simp only [K_3 hK, ky, qb_in, qkW, qmW, qnW, true_and, and_true, or_self, true_or, or_true, and_self]; done) | (simp only [K_3 hK, ky, qb_in, qkW, qmW, qnW, true_and, and_true, or_self, true_or, or_true, and_self]; omega)) only [zD_139, b139_0, b139_5, b139_48, b139_53, b139_58, b139_63, b139_64, b139_69, b139_74, b139_79, b139_84, i139, w139_7, qcall_l, qcall_r, qretn_l, qJ_s, qJ_n, qV0, qEx, ↓qif0, ↓zchk_pos, ↓reduceIte, qput, qWW, qmW, qkW, qnW, K_3 hK, co, Int.reduceEq, ky, y6]
theorem c_139_5 (e : Nat) (S : zS) (k : Int) (he : 15 ≤ e) (hH : qHC S) (c1 : 0 ≤ k ∧ k < zm S 37 65) : zD (e + 1) 139 [vr 3, vi k, vi 5] S = some (.inl (some (vi (zm S 87 k))), S) := by
  obtain ⟨⟨⟨⟨hK, hP, hL, hn⟩, ⟨hT, hC, hR, hkk⟩, ⟨p1, p2, p3, p4, p5, p6⟩, hY⟩, hBB⟩, hYC, hFc⟩ := id hH
  obtain ⟨b, x, y, w, t, P, q0⟩ := hYC.2.1 k c1.1 c1.2
  obtain ⟨⟨a1, a2, a3, a4, a5, a6⟩, ⟨b1, b2, b3, b4, b5, b6⟩, ⟨ky, ky1, ky2, y103, yn⟩, ⟨y2, y3, y4⟩, -⟩ := id q0
  have n65 := p4.1.2
  have k20 : k < 20 := by omega
  have co := s_copyOf_y e S k (by omega) hK hP p4.1 c1
  obtain ⟨-, yb, -, yx, y5, y6, y7, y8⟩ := p4.2.1 k c1.1 c1.2
  rw [a3] at co yb yx y5 y6 y7 y8
  rw [a1] at yb yx
  rw [a2] at yx
  have t37 := K_37 hK
  have hk0 := c1.1
  simp (config := { maxSteps := 2000000 }) (disch := first | omega | (simp only [K_3 hK, ky, qb_in, qkW, qmW, qnW, true_and, and_true, or_self, true_or, or_true, and_self]; done) | (simp only [K_3 hK, ky, qb_in, qkW, qmW, qnW, true_and, and_true, or_self, true_or, or_true, and_self]; omega)) only [zD_139, b139_0, b139_5, b139_48, b139_53, b139_58, b139_63, b139_64, b139_69, b139_74, b139_79, b139_84, i139, w139_7, qcall_l, qcall_r, qretn_l, qJ_s, qJ_n, qV0, qEx, ↓qif0, ↓zchk_pos, ↓reduceIte, qput, qWW, qmW, qkW, qnW, K_3 hK, co, Int.reduceEq, ky, y7]
theorem c_139_6 (e : Nat) (S : zS) (k : Int) (he : 15 ≤ e) (hH : qHC S) (c1 : 0 ≤ k ∧ k < zm S 37 65) : zD (e + 1) 139 [vr 3, vi k, vi 6] S = some (.inl (some (vi (zm S 88 k))), S) := by
  obtain ⟨⟨⟨⟨hK, hP, hL, hn⟩, ⟨hT, hC, hR, hkk⟩, ⟨p1, p2, p3, p4, p5, p6⟩, hY⟩, hBB⟩, hYC, hFc⟩ := id hH
  obtain ⟨b, x, y, w, t, P, q0⟩ := hYC.2.1 k c1.1 c1.2
  obtain ⟨⟨a1, a2, a3, a4, a5, a6⟩, ⟨b1, b2, b3, b4, b5, b6⟩, ⟨ky, ky1, ky2, y103, yn⟩, ⟨y2, y3, y4⟩, -⟩ := id q0
  have n65 := p4.1.2
  have k20 : k < 20 := by omega
  have co := s_copyOf_y e S k (by omega) hK hP p4.1 c1
  obtain ⟨-, yb, -, yx, y5, y6, y7, y8⟩ := p4.2.1 k c1.1 c1.2
  rw [a3] at co yb yx y5 y6 y7 y8
  rw [a1] at yb yx
  rw [a2] at yx
  have t37 := K_37 hK
  have hk0 := c1.1
  simp (config := { maxSteps := 2000000 }) (disch := first | omega | (simp only [K_3 hK, ky, qb_in, qkW, qmW, qnW, true_and, and_true, or_self, true_or, or_true, and_self]; done) | (simp only [K_3 hK, ky, qb_in, qkW, qmW, qnW, true_and, and_true, or_self, true_or, or_true, and_self]; omega)) only [zD_139, b139_0, b139_5, b139_48, b139_53, b139_58, b139_63, b139_64, b139_69, b139_74, b139_79, b139_84, i139, w139_7, qcall_l, qcall_r, qretn_l, qJ_s, qJ_n, qV0, qEx, ↓qif0, ↓zchk_pos, ↓reduceIte, qput, qWW, qmW, qkW, qnW, K_3 hK, co, Int.reduceEq, ky, y8]
theorem c_139_2 (e : Nat) (S : zS) (k : Int) (he : 15 ≤ e) (hH : qHC S) (c1 : 0 ≤ k ∧ k < zm S 37 65) {b x y w t P : Int} {J : Nat} (q0 : qCq S k b x y w t P) (hJ : zm S 54 b = (J : Int)) : ∃ m, zD (e + 1) 139 [vr 3, vi k, vi 2] S = some (.inl (some (vi (qmis (qQj S k b x w t) J))), qW S m) ∧ qFq S m := by
  obtain ⟨⟨⟨⟨hK, hP, hL, hn⟩, ⟨hT, hC, hR, hkk⟩, ⟨p1, p2, p3, p4, p5, p6⟩, hY⟩, hBB⟩, hYC, hFc⟩ := id hH
  obtain ⟨⟨a1, a2, a3, a4, a5, a6⟩, ⟨b1, b2, b3, b4, b5, b6⟩, ⟨ky, ky1, ky2, y103, yn⟩, ⟨y2, y3, y4⟩, -⟩ := id q0
  have n65 := p4.1.2
  have k20 : k < 20 := by omega
  have co := s_copyOf_y e S k (by omega) hK hP p4.1 c1
  obtain ⟨-, yb, -, yx, y5, y6, y7, y8⟩ := p4.2.1 k c1.1 c1.2
  rw [a3] at co yb yx y5 y6 y7 y8
  rw [a1] at yb yx
  rw [a2] at yx
  have t37 := K_37 hK
  have hk0 := c1.1
  obtain ⟨mC, rC, iC⟩ := s_countMisread e S k b x y w t P J (by omega) hH q0 yx hJ
  have fC := qCi_q hP iC
  obtain ⟨v, hv⟩ : ∃ v, qmis (qQj S k b x w t) J = v := ⟨_, rfl⟩
  rw [hv] at rC ⊢
  refine ⟨mC, ?_, fC⟩
  simp (config := { maxSteps := 2000000 }) (disch := first | omega | (simp only [K_3 hK, ky, qb_in, qkW, qmW, qnW, true_and, and_true, or_self, true_or, or_true, and_self]; done) | (simp only [K_3 hK, ky, qb_in, qkW, qmW, qnW, true_and, and_true, or_self, true_or, or_true, and_self]; omega)) only [zD_139, b139_0, b139_5, b139_48, b139_53, b139_58, b139_63, b139_64, b139_69, b139_74, b139_79, b139_84, i139, w139_7, qcall_l, qcall_r, qretn_l, qJ_s, qJ_n, qV0, qEx, ↓qif0, ↓zchk_pos, ↓reduceIte, qput, qWW, qmW, qkW, qnW, K_3 hK, co, Int.reduceEq, rC]
theorem c_139_n (e : Nat) (S : zS) (k : Int) (he : 15 ≤ e) (hH : qHC S) (c1 : 0 ≤ k ∧ k < zm S 37 65) (a : Int) (c2 : ¬ (0 ≤ a ∧ a ≤ 6)) : zD (e + 1) 139 [vr 3, vi k, vi a] S = some (.inr 0, zbump S) := by
  obtain ⟨⟨⟨⟨hK, hP, hL, hn⟩, ⟨hT, hC, hR, hkk⟩, ⟨p1, p2, p3, p4, p5, p6⟩, hY⟩, hBB⟩, hYC, hFc⟩ := id hH
  obtain ⟨b, x, y, w, t, P, q0⟩ := hYC.2.1 k c1.1 c1.2
  obtain ⟨⟨a1, a2, a3, a4, a5, a6⟩, ⟨b1, b2, b3, b4, b5, b6⟩, ⟨ky, ky1, ky2, y103, yn⟩, ⟨y2, y3, y4⟩, -⟩ := id q0
  have n65 := p4.1.2
  have k20 : k < 20 := by omega
  have co := s_copyOf_y e S k (by omega) hK hP p4.1 c1
  obtain ⟨-, yb, -, yx, y5, y6, y7, y8⟩ := p4.2.1 k c1.1 c1.2
  rw [a3] at co yb yx y5 y6 y7 y8
  rw [a1] at yb yx
  rw [a2] at yx
  have t37 := K_37 hK
  have hk0 := c1.1
  simp (config := { maxSteps := 2000000 }) (disch := first | omega | (simp only [K_3 hK, qb_in, qkW, qmW, qnW, true_and, and_true, or_self, true_or, or_true, and_self]; done) | (simp only [K_3 hK, qb_in, qkW, qmW, qnW, true_and, and_true, or_self, true_or, or_true, and_self]; omega)) only [zD_139, b139_0, b139_5, b139_48, b139_53, b139_58, b139_63, b139_64, b139_69, b139_74, b139_79, b139_84, i139, w139_7, qcall_l, qcall_r, qretn_l, qJ_s, qJ_n, qV0, qEx, ↓qif0, ↓zchk_pos, ↓reduceIte, qput, qWW, qmW, qkW, qnW, K_3 hK, co, if_neg (show ¬ a = 0 by omega), if_neg (show ¬ a = 1 by omega), if_neg (show ¬ a = 2 by omega), if_neg (show ¬ a = 3 by omega), if_neg (show ¬ a = 4 by omega), if_neg (show ¬ a = 5 by omega), if_neg (show ¬ a = 6 by omega)]
theorem a_139 (e : Nat) (he : 300 ≤ e) (k a : Int) : hA1 false e 139 [vi k, vi a] := a_cls (by rfl) trivial fun V hV => by
  by_cases c1 : 0 ≤ k ∧ k < zm V 37 65
  · obtain ⟨f, rfl, hf⟩ := qd (show 15 + 1 ≤ e by omega)
    have ok : ∀ v, zD (f + 1) 139 [vr 3, vi k, vi a] V = some (.inl (some (vi v)), V) → (∃ v m, zD (f + 1) 139 (vr 3 :: [vi k, vi a]) V = some (.inl (some (gl false v)), qW V m) ∧ qFq V m) ∨ ∃ x, zD (f + 1) 139 (vr 3 :: [vi k, vi a]) V = some (.inr x, zbump V) ∧ (x = 0 ∨ x = 1 ∨ x = 2) := fun v r => Or.inl ⟨v, zm V, by rw [qWS]; exact r, qFq_r V⟩
    by_cases c2 : 0 ≤ a ∧ a ≤ 6
    · have hcase : a = 0 ∨ a = 1 ∨ a = 2 ∨ a = 3 ∨ a = 4 ∨ a = 5 ∨ a = 6 := by omega
      rcases hcase with rfl | rfl | rfl | rfl | rfl | rfl | rfl
      · exact ok _ (c_139_0 f V k (by omega) hV c1)
      · exact ok _ (c_139_1 f V k (by omega) hV c1)
      · obtain ⟨b, x, y, w, t, P, q0⟩ := hV.2.1.2.1 k c1.1 c1.2
        have hJ := (hV.1.1.2.2.2.2.1 b q0.2.1.1 q0.2.1.2.1).2.2.2.2.2.2.2.1.2
        obtain ⟨J, hJ⟩ : ∃ J : Nat, zm V 54 b = (J : Int) := ⟨(zm V 54 b).toNat, by omega⟩
        obtain ⟨m, r, q⟩ := c_139_2 f V k (by omega) hV c1 q0 hJ
        exact Or.inl ⟨_, m, r, q⟩
      · exact ok _ (c_139_3 f V k (by omega) hV c1)
      · exact ok _ (c_139_4 f V k (by omega) hV c1)
      · exact ok _ (c_139_5 f V k (by omega) hV c1)
      · exact ok _ (c_139_6 f V k (by omega) hV c1)
    · exact Or.inr ⟨0, c_139_n f V k (by omega) hV c1 a c2, Or.inl rfl⟩
  · obtain ⟨x, r, -, hx⟩ := q_ofCopy_n e V k a (by omega) hV.1.1.1.1 hV.1.1.2.2.1.2.2.2.1.1 c1
    exact Or.inr ⟨x, r, ps_D x hx⟩
theorem c_140 (e : Nat) (S : zS) (he : 2 ≤ e) (hH : qHC S) : zD (e + 1) 140 [vr 3] S = some (.inl (some (vi (zm S 37 73))), S) := by
  obtain ⟨⟨⟨⟨hK, hP, hL, hn⟩, ⟨hT, hC, hR, hk⟩, ⟨p1, p2, p3, p4, p5, p6⟩, hY⟩, hBB⟩, hYC, hFc⟩ := id hH
  obtain ⟨n1, n2⟩ := p4.1
  have lp : ∀ (g i : Nat), i + g = (zm S 37 65).toNat → zF_140 e 4 [vr 3, vi (qst_ (zm S) i), vi (i : Int)] [] S = some (.inl (some (vi (zm S 37 73))), S) := by
    intro g
    induction g with
    | zero =>
      intro i hi
      have hi2 : (i : Int) = zm S 37 65 := by omega
      rw [b140_4, hYC.2.2.1, ← hi, Nat.add_zero]
      simp (config := { maxSteps := 2000000 }) (disch := first | omega | (simp only [K_3 hK, qb_in, qkW, qmW, qnW, true_and, and_true, or_self, true_or, or_true, and_self]; done) | (simp only [K_3 hK, qb_in, qkW, qmW, qnW, true_and, and_true, or_self, true_or, or_true, and_self]; omega)) only [b140_0, b140_12, b140_22, b140_30, qcall_l, qcall_r, qretn_l, qJ_s, qJ_n, qV0, qEx, ↓qif0, ↓zchk_pos, ↓reduceIte, qput, qWW, qmW, qkW, qnW, K_3 hK, n1, if_neg (show ¬ (i : Int) < zm S 37 65 by omega)]
    | succ g ih =>
      intro i hi
      have hlt : (i : Int) < zm S 37 65 := by omega
      have r1 := ih (i + 1) (by omega)
      have sr := qst_r hYC i (by omega)
      have sr2 := qst_r hYC (i + 1) (by omega)
      rw [qst_] at r1 sr2
      obtain ⟨b, x, y, w, t, P, ⟨a1, a2, a3, -, -, a6⟩, ⟨b1, b2, b3, b4, b5, b6⟩, ⟨ky, -⟩, -⟩ := hYC.2.1 i (by omega) hlt
      have y1 := (p4.2.1 i (by omega) hlt).2.2.2.1
      rw [a1, a2, a3] at y1
      obtain ⟨⟨kx, -⟩, -, -, -, -, ⟨x5, v1, v2⟩, -⟩ := hY.2.1 b b1 b2
      rw [a2] at kx x5
      have sc : zD e 43 [vr y] S = some (.inl (some (vi (qsh (zm S) (zm S 82 i)))), S) := by
        obtain ⟨f, rfl, -⟩ := qd (show 1 ≤ e by omega)
        unfold qsh
        rw [a1, a2, a6]
        by_cases cb : zm S 53 b = 0
        · rw [if_pos cb]
          simp (config := { maxSteps := 2000000 }) (disch := first | omega | (simp only [ky, y1, kx, qb_in, qkW, qmW, qnW, true_and, and_true, or_self, true_or, or_true, and_self]; done) | (simp only [ky, y1, kx, qb_in, qkW, qmW, qnW, true_and, and_true, or_self, true_or, or_true, and_self]; omega)) only [zD_43, b43_0, b43_10, b43_24, b43_31, qcall_l, qcall_r, qretn_l, qJ_s, qJ_n, qV0, qEx, ↓qif0, ↓zchk_pos, ↓reduceIte, qput, qWW, qmW, qkW, qnW, ky, y1, kx, x5, cb, a6]
        · have z1 : z32 (P + 1) = P + 1 := q32 (by omega)
          have td : Int.tdiv (P + 1) 2 = (P + 1) / 2 := Int.tdiv_eq_ediv_of_nonneg (by omega)
          have z2 : z32 ((P + 1) / 2) = (P + 1) / 2 := q32 (by omega)
          rw [if_neg cb]
          simp (config := { maxSteps := 2000000 }) (disch := first | omega | (simp only [ky, y1, kx, qb_in, qkW, qmW, qnW, true_and, and_true, or_self, true_or, or_true, and_self]; done) | (simp only [ky, y1, kx, qb_in, qkW, qmW, qnW, true_and, and_true, or_self, true_or, or_true, and_self]; omega)) only [zD_43, b43_0, b43_10, b43_24, b43_31, qcall_l, qcall_r, qretn_l, qJ_s, qJ_n, qV0, qEx, ↓qif0, ↓zchk_pos, ↓reduceIte, qput, qWW, qmW, qkW, qnW, ky, y1, kx, x5, if_neg cb, a6, z1, td, z2, Int.reduceNe]
      have z3 : z32 (qst_ (zm S) i + qsh (zm S) (zm S 82 i)) = qst_ (zm S) i + qsh (zm S) (zm S 82 i) := q32 (by omega)
      rw [b140_4]
      simp (config := { maxSteps := 2000000 }) (disch := first | omega | (simp only [K_3 hK, K_13 hK, P_3_8 hP, a3, ky, qb_in, qkW, qmW, qnW, true_and, and_true, or_self, true_or, or_true, and_self]; done) | (simp only [K_3 hK, K_13 hK, P_3_8 hP, a3, ky, qb_in, qkW, qmW, qnW, true_and, and_true, or_self, true_or, or_true, and_self]; omega)) only [b140_0, b140_12, b140_22, b140_30, qcall_l, qcall_r, qretn_l, qJ_s, qJ_n, qV0, qEx, ↓qif0, ↓zchk_pos, ↓reduceIte, qput, qWW, qmW, qkW, qnW, K_3 hK, K_13 hK, P_3_8 hP, n1, if_pos hlt, a3, ky, sc, z3, z32_s i (by omega), r1]
  have r1 := lp (zm S 37 65).toNat 0 (by omega)
  have r1 : zF_140 e 4 [vr 3, vi 0, vi 0] [] S = _ := r1
  simp (config := { maxSteps := 2000000 }) (disch := first | omega | (simp only [qb_in, qkW, qmW, qnW, true_and, and_true, or_self, true_or, or_true, and_self]; done) | (simp only [qb_in, qkW, qmW, qnW, true_and, and_true, or_self, true_or, or_true, and_self]; omega)) only [zD_140, b140_0, b140_12, b140_22, b140_30, qcall_l, qcall_r, qretn_l, qJ_s, qJ_n, qV0, qEx, ↓qif0, ↓zchk_pos, ↓reduceIte, qput, qWW, qmW, qkW, qnW]
  exact r1
theorem a_140 (e : Nat) (he : 300 ≤ e) : hA1 false e 140 [] := a_cls (by rfl) trivial fun V hV => by
  obtain ⟨f, rfl, hf⟩ := qd (show 15 + 1 ≤ e by omega)
  exact Or.inl ⟨zm V 37 73, zm V, by rw [qWS]; exact c_140 f V (by omega) hV, qFq_r V⟩
