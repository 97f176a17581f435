/-! Words misread of a copy: the class. -/
def qWc (m : Int → Int → Int) (k : Int) : List Int := qgl (fun i => m 58 (10 * k + i) - if m 56 k = 1 then 48 else 97) (m 59 k).toNat
theorem qWr_c {m : Int → Int → Int} {k dg st bg mk : Int} {W : List Int} (h : qWr m k W dg st bg mk) : qWc m k = W ∧ m 56 k = dg ∧ m 55 k = st ∧ m 57 k = bg ∧ m 60 k = mk := by
  obtain ⟨h1, h2, h3, h4, h5, h6⟩ := h
  refine ⟨?_, h2, h1, h3, h5⟩
  unfold qWc
  rw [h4, Int.toNat_natCast, h2]
  refine qnth_x (qgl_l _ _) fun i i1 i2 => ?_
  rw [qgl_l] at i2
  rw [qgl_n _ _ i ⟨i1, i2⟩, h6 i i1 i2]
  omega
def qFj (S : zS) (k x w t y i : Int) : Int := qfv S k x w t (qtp1 (zm S) t y i) (qtp2 (zm S) t y i) (qtp3 (zm S) y i)
def qLj (S : zS) (k x w t y : Int) : List Int := qgl (qFj S k x w t y) (zm S (y + 3) 1).toNat
def qQj (S : zS) (k b x w t : Int) (j : Nat) : Prop := qyAs (qTm (zm S) (zm S 49 b)) (zm S 39 (zm S 49 b)) (zm S 50 b) (qLj S k x w t (zm S (x + 1) j)) (qWc (zm S) (80 * b + j)) (zm S 56 (80 * b + j)) (zm S 55 (80 * b + j)) (zm S 57 (80 * b + j)) (zm S 60 (80 * b + j))
/-- how many are misread -/
noncomputable def qmis (Q : Nat → Prop) : Nat → Int
  | 0 => 0
  | n + 1 => qmis Q n + (1 - qc (Q n))
theorem qmis_r (Q : Nat → Prop) : ∀ n : Nat, 0 ≤ qmis Q n ∧ qmis Q n ≤ n := by
  intro n
  induction n with
  | zero => exact ⟨Int.le_refl _, Int.le_refl _⟩
  | succ n ih =>
    have := qc_r (Q n)
    rw [qmis]
    omega
theorem qyK_u {T : Int → Int → Int} {N g : Int} {L K K' : List Int} (h : qyK T N g L K) (h' : qyK T N g L K') : K = K' := by
  unfold qyK at h h'
  by_cases c : qyh L = 60
  · rw [if_pos c] at h h'
    obtain ⟨-, a1, a2⟩ := h
    obtain ⟨-, b1, b2⟩ := h'
    exact qnth_x (by omega) fun i i1 i2 => by rw [(a2 i i1 (by omega)).2, (b2 i i1 (by omega)).2]
  · rw [if_neg c] at h h'
    by_cases c2 : qyh L = 48
    · rw [if_pos c2] at h h'
      exact Option.some.inj (h.2.symm.trans h'.2)
    · rw [if_neg c2] at h h'
      exact Option.some.inj (h.2.symm.trans h'.2)
/-- the class, words gone over -/
def qCi (S : zS) (m : Int → Int → Int) : Prop := (∀ z, ¬ (18 ≤ z ∧ z ≤ 22) → m z = zm S z) ∧ m 18 0 = 19 ∧ m 20 0 = 21 ∧ m 20 4 = 22
theorem qCi_q {S : zS} {m : Int → Int → Int} (hP : qP (zm S)) (h : qCi S m) : qFq S m := fun z i hz => by
  have hz : ¬ qscf z i := fun q => hz (Or.inl q)
  obtain ⟨h1, h2, h3, h4⟩ := h
  by_cases c : 18 ≤ z ∧ z ≤ 22
  · have hc : (z = 18 ∧ i = 0) ∨ (z = 20 ∧ (i = 0 ∨ i = 4)) := by
      unfold qscf at hz
      omega
    rcases hc with ⟨rfl, rfl⟩ | ⟨rfl, rfl | rfl⟩
    · rw [h2]; exact (P_18_0 hP).symm
    · rw [h3]; exact (P_20_0 hP).symm
    · rw [h4]; exact (P_20_4 hP).symm
  · rw [h1 z c]
theorem qCi_cq {S : zS} {m : Int → Int → Int} {k b x y w t P : Int} (hq : qCq S k b x y w t P) (x103 : 103 ≤ x) (h : ∀ z, ¬ (18 ≤ z ∧ z ≤ 22) → m z = zm S z) : qCq (qW S m) k b x y w t P := by
  have y103 := hq.2.2.1.2.2.2.1
  have r : ∀ z, 22 < z → zm (qW S m) z = zm S z := fun z hz => h z (by omega)
  refine qCq_w hq ⟨Nat.le_refl _, fun _ _ => rfl⟩ (by rw [r 82 (by decide)]) (by show m 8 b = _; rw [h 8 (by decide)]) (by show m 13 k = _; rw [h 13 (by decide)]) (by rw [r 51 (by decide)]) (by rw [r 52 (by decide)]) (by rw [r 54 (by decide)]) (by rw [r 37 (by decide)]; exact Int.le_refl _) (fun p _ _ => by rw [r 85 (by decide)]) (fun q _ _ => by rw [r 83 (by decide)]) (by rw [r x (by omega)]) (r _ (by omega)) (fun j _ => by rw [r y (by omega)]) (r _ (by omega)) (r _ (by omega)) (by rw [r 84 (by decide)])
theorem q_misX {S : zS} {k b x y w t P v : Int} {J j : Nat} {fL fE : Nat → List Int} {fA fU fM : Nat → Int} {l0 st mk N g p : Int} {T : Int → Int → Int} {W : List Int} (h0 : qB0 S b x w t J fL fE fA fU fM P l0) (hw : 18 ≤ w ∧ w ≤ 40) (ht : 3 ≤ t ∧ t ≤ 25) (hj : j < J) (hv : zm S (x + 1) j = v) (hL : fL j = qwL T N g W p 1 st 0 (qmc mk)) (hst : st = 0 ∨ st = 1) (hW : ∀ i, 0 ≤ i → i < (W.length : Int) → 0 ≤ qnth W i ∧ qnth W i ≤ 9) (hm : mk = 0 ∨ qmk mk) (hs : qys (qgl (qFj S k x w t v) (fL j).length) = st) (h60 : qyh (qgl (qFj S k x w t v) (fL j).length) = 60) (hn : 0 < (fL j).length) : qyg (qgl (qFj S k x w t v) (fL j).length) = 0 := by
  obtain ⟨A, hA⟩ : ∃ A, qgl (qFj S k x w t v) (fL j).length = A := ⟨_, rfl⟩
  have Al : (A.length : Int) = (fL j).length := by rw [← hA, qgl_l]
  have An : ∀ i, 0 ≤ i → i < ((fL j).length : Int) → qnth A i = qFj S k x w t v i := fun i i1 i2 => by rw [← hA]; exact qgl_n _ _ i ⟨i1, i2⟩
  rw [hA] at hs h60 ⊢
  have gr := (qyg_r A (by omega)).1
  by_cases c : qyg A = 0
  · exact c
  · have hbb : qys A + qyg A = qyb A := rfl
    have Bl : qyb A < A.length := by
      by_cases q : qyb A < A.length
      · exact q
      · unfold qyh at h60; rw [if_neg q] at h60; exact absurd h60 (by decide)
    have hv60 : qnth A (qyb A) = 60 := by
      unfold qyh at h60
      rw [if_pos Bl] at h60
      exact h60
    obtain ⟨B, hB⟩ : ∃ B, qyb A = B := ⟨_, rfl⟩
    rw [hB] at Bl hv60 hbb
    have sr := qys_r A
    rw [An B (by omega) (by omega)] at hv60
    obtain ⟨-, -, w3⟩ := q_wordIn h0 hw ht hj hv
    obtain ⟨-, -, -, w4, -⟩ := w3 B (by omega) (by omega)
    unfold qFj qfv at hv60
    obtain ⟨ix, hix⟩ : ∃ ix, (qtp1 (zm S) t v B * t + qtp2 (zm S) t v B) * w + qtp3 (zm S) v B = ix := ⟨_, rfl⟩
    rw [hix] at hv60 w4
    split at hv60
    · obtain ⟨b2, b3⟩ := qfwx_60 hv60
      have i0 : 0 ≤ ix := by
        obtain ⟨⟨p0, -⟩, ⟨l0, -⟩, ⟨c0, -⟩, -⟩ := w3 B (by omega) (by omega)
        rw [← hix]
        have h1 : 0 ≤ qtp1 (zm S) t v B * t := Int.mul_nonneg p0 (by omega)
        have h2 : 0 ≤ (qtp1 (zm S) t v B * t + qtp2 (zm S) t v B) * w := Int.mul_nonneg (by omega) (by omega)
        omega
      rw [show ((ix.toNat : Nat) : Int) = ix by omega, w4] at b2 b3
      rw [hL] at b2 b3
      rw [hL] at Al
      exact absurd ⟨b2, b3⟩ (qwL_23 hst hW hm B (by omega) (by omega))
    · exact absurd hv60 (by decide)
theorem s_misRun0 (e : Nat) (S : zS) (m m1 m2 : Int → Int → Int) (x y v a g sum Jn j : Int) (x4 : zV) (k3_ : zk S 3 = (32, 0)) (k18_ : zk S 18 = (28, 0)) (ky : zk S y = (24, 0)) (kx : zk S x = (20, 0)) (kx1 : zk S (x + 1) = (11, 80)) (kv : zk S v = (21, 0)) (ca : zk S a = (22, 0)) (my1 : m y 1 = x) (mx7 : m x 7 = Jn) (mx6 : m x 6 = x + 1) (mxj : m (x + 1) j = v) (e3b : m 3 15 = 20) (e3c : m1 3 14 = 18) (e3d : m1 3 15 = 20) (my1a : m1 y 1 = x) (mx1 : m1 x 1 = a) (mx2 : m1 x 2 = g) (e3e : m2 3 14 = 18) (mv0 : m2 v 0 = v + 1) (hj : j < Jn) (j0 : 0 ≤ j) (j80 : j < 80) (z1 : z32 (sum + 1) = sum + 1) (z2 : z32 (j + 1) = j + 1) (r1 : zD e 42 [vr y, vr v, vr 20] (qW S m) = some (.inl none, qW S m1)) (r2 : zD e 27 [vr a, vr 20, vi g, vr 18] (qW S m1) = some (.inl (some (vi 0)), qW S m2)) :
    zF_169 e 4 [vr 3, vr y, vi sum, vi j, x4] [] (qW S m) = zF_169 e 4 [vr 3, vr y, vi (sum + 1), vi (j + 1), vu] [] (qW S m2) := by
  rw [b169_4]
  simp (config := { maxSteps := 2000000 }) (disch := first | omega | (simp only [k3_, k18_, ky, kx, kx1, kv, ca, my1, mx6, my1a, e3b, e3c, e3d, e3e, mv0, mx1, mxj, j0, j80, qb_in, qkW, qmW, qnW, true_and, and_true, or_self, true_or, or_true, and_self]; done) | (simp only [k3_, k18_, ky, kx, kx1, kv, ca, my1, mx6, my1a, e3b, e3c, e3d, e3e, mv0, mx1, mxj, j0, j80, qb_in, qkW, qmW, qnW, true_and, and_true, or_self, true_or, or_true, and_self]; omega)) only [b169_0, b169_15, b169_33, b169_36, b169_58, b169_61, b169_64, b169_76, b169_79, b169_82, b169_88, qcall_l, qcall_r, qretn_l, qJ_s, qJ_n, qV0, qEx, ↓qif0, ↓zchk_pos, ↓reduceIte, qput, qWW, qmW, qkW, qnW, k3_, k18_, ky, kx, kx1, kv, ca, my1, mx7, mx6, mxj, e3b, e3c, e3d, my1a, mx1, mx2, if_pos hj, r1, r2, z1, z2, Int.reduceEq]
theorem s_misRun1 (e : Nat) (S : zS) (m m1 m2 : Int → Int → Int) (x y v a g sum Jn j : Int) (x4 : zV) (k3_ : zk S 3 = (32, 0)) (k18_ : zk S 18 = (28, 0)) (ky : zk S y = (24, 0)) (kx : zk S x = (20, 0)) (kx1 : zk S (x + 1) = (11, 80)) (kv : zk S v = (21, 0)) (ca : zk S a = (22, 0)) (my1 : m y 1 = x) (mx7 : m x 7 = Jn) (mx6 : m x 6 = x + 1) (mxj : m (x + 1) j = v) (e3b : m 3 15 = 20) (e3c : m1 3 14 = 18) (e3d : m1 3 15 = 20) (my1a : m1 y 1 = x) (mx1 : m1 x 1 = a) (mx2 : m1 x 2 = g) (e3e : m2 3 14 = 18) (mv0 : m2 v 0 = v + 1) (hj : j < Jn) (j0 : 0 ≤ j) (j80 : j < 80) (z1 : z32 (sum + 1) = sum + 1) (z2 : z32 (j + 1) = j + 1) (r1 : zD e 42 [vr y, vr v, vr 20] (qW S m) = some (.inl none, qW S m1)) (r2 : zD e 27 [vr a, vr 20, vi g, vr 18] (qW S m1) = some (.inl (some (vi 1)), qW S m2)) (z : Int) (hz : z = 0 ∨ z = 1) (r3 : zD e 86 [vr 18, vr (v + 1)] (qW S m2) = some (.inl (some (vi z)), qW S m2)) :
    zF_169 e 4 [vr 3, vr y, vi sum, vi j, x4] [] (qW S m) = zF_169 e 4 [vr 3, vr y, vi (sum + (1 - z)), vi (j + 1), vu] [] (qW S m2) := by
  rw [b169_4]
  rcases hz with rfl | rfl
  · rw [show sum + (1 - 0) = sum + 1 by omega]
    simp (config := { maxSteps := 2000000 }) (disch := first | omega | (simp only [k3_, k18_, ky, kx, kx1, kv, ca, my1, mx6, my1a, e3b, e3c, e3d, e3e, mv0, mx1, mxj, j0, j80, qb_in, qkW, qmW, qnW, true_and, and_true, or_self, true_or, or_true, and_self]; done) | (simp only [k3_, k18_, ky, kx, kx1, kv, ca, my1, mx6, my1a, e3b, e3c, e3d, e3e, mv0, mx1, mxj, j0, j80, qb_in, qkW, qmW, qnW, true_and, and_true, or_self, true_or, or_true, and_self]; omega)) only [b169_0, b169_15, b169_33, b169_36, b169_58, b169_61, b169_64, b169_76, b169_79, b169_82, b169_88, qcall_l, qcall_r, qretn_l, qJ_s, qJ_n, qV0, qEx, ↓qif0, ↓zchk_pos, ↓reduceIte, qput, qWW, qmW, qkW, qnW, k3_, k18_, ky, kx, kx1, kv, ca, my1, mx7, mx6, mxj, e3b, e3c, e3d, my1a, mx1, mx2, if_pos hj, r1, r2, z1, z2, Int.reduceEq, e3e, mv0, r3]
  · rw [show sum + (1 - 1) = sum by omega]
    simp (config := { maxSteps := 2000000 }) (disch := first | omega | (simp only [k3_, k18_, ky, kx, kx1, kv, ca, my1, mx6, my1a, e3b, e3c, e3d, e3e, mv0, mx1, mxj, j0, j80, qb_in, qkW, qmW, qnW, true_and, and_true, or_self, true_or, or_true, and_self]; done) | (simp only [k3_, k18_, ky, kx, kx1, kv, ca, my1, mx6, my1a, e3b, e3c, e3d, e3e, mv0, mx1, mxj, j0, j80, qb_in, qkW, qmW, qnW, true_and, and_true, or_self, true_or, or_true, and_self]; omega)) only [b169_0, b169_15, b169_33, b169_36, b169_58, b169_61, b169_64, b169_76, b169_79, b169_82, b169_88, qcall_l, qcall_r, qretn_l, qJ_s, qJ_n, qV0, qEx, ↓qif0, ↓zchk_pos, ↓reduceIte, qput, qWW, qmW, qkW, qnW, k3_, k18_, ky, kx, kx1, kv, ca, my1, mx7, mx6, mxj, e3b, e3c, e3d, my1a, mx1, mx2, if_pos hj, r1, r2, z1, z2, Int.reduceEq, e3e, mv0, r3]
theorem s_misStep (e : Nat) (S : zS) (m : Int → Int → Int) (k b x y w t P sum : Int) (j : Nat) (x4 : zV) (he : 9 ≤ e) (hH : qHC S) (hq : qCq S k b x y w t P) (y1 : zm S y 1 = x) (hj : (j : Int) < zm S 54 b) (hs : 0 ≤ sum ∧ sum ≤ 100) (hm : qCi S m) :
    ∃ m', zF_169 e 4 [vr 3, vr y, vi sum, vi (j : Int), x4] [] (qW S m) = zF_169 e 4 [vr 3, vr y, vi (sum + (1 - qc (qQj S k b x w t j))), vi ((j + 1 : Nat) : Int), vu] [] (qW S m') ∧ qCi S m' := by
  obtain ⟨⟨⟨⟨hK, hP, hL, hn⟩, ⟨hT, hC, hR, hkk⟩, ⟨p1, p2, p3, p4, p5, p6⟩, hY⟩, hBB⟩, hYC, hFc⟩ := id hH
  have q0 := hq
  obtain ⟨⟨a1, a2, a3, a4, a5, a6⟩, ⟨b1, b2, b3, b4, b5, b6⟩, ⟨ky, ky1, ky2, y103, yn⟩, -⟩ := hq
  obtain ⟨⟨kx, kx1, kx2, x103, xn⟩, ⟨xc, x1a, c1, c2⟩, ⟨x2g, -⟩, ⟨x3, wr⟩, ⟨x4t, tr⟩, -, x6, ⟨x7, -⟩, -⟩ := hY.2.1 b b1 b2
  rw [a2] at kx kx1 kx2 x103 xn xc x1a x2g x3 x4t x6 x7
  rw [a4] at x3 wr
  rw [a5] at x4t tr
  obtain ⟨cb, co, tk, -⟩ := qRC_1 hC c1 c2
  obtain ⟨J, fL, fE, fA, fU, fM, P', l0, h0, -⟩ := hBB b b1 b2
  rw [a2, a4, a5] at h0
  have hJ := h0.1.1
  have jJ : j < J := by omega
  have J80 := h0.1.2.1
  have eP : P' = P := by rw [← (qB0_P h0 wr.1 tr).2.1, a6]
  subst eP
  obtain ⟨v, hv⟩ : ∃ v, zm S (x + 1) j = v := ⟨_, rfl⟩
  obtain ⟨⟨i20, i31, i3t, i40, i4w, i2P⟩, ⟨s0, sn⟩, iall⟩ := q_wordIn h0 wr tr jJ hv
  have ww := (h0.2.1 j jJ).1
  rw [hv] at ww
  have n0 := qWw_0 ww
  obtain ⟨L, hLj⟩ : ∃ L, fL j = L := ⟨_, rfl⟩
  have hX := fun (st mk N g p : Int) (T : Int → Int → Int) (W : List Int) => q_misX (k := k) (y := y) (st := st) (mk := mk) (N := N) (g := g) (p := p) (T := T) (W := W) h0 wr tr jJ hv
  have ho := qB_J h0 j jJ
  rw [hLj] at ww sn iall hX n0 ho
  have L16 := ho.1
  have E4 := ho.2.2.1.2
  clear h0 hBB hYC hFc p1 p2 p3 p4 p5 p6 hR hkk hT
  obtain ⟨⟨⟨kv, kv1, kv2, kv3, kv4, kv5⟩, ⟨v0, v10, v1, v30, v34⟩, v103, vn⟩, wp⟩ := qWw_b ww
  have sp := qspz_e wp
  obtain ⟨W, dg, st, bg, mk, c', N', g', T', pp, ⟨⟨w1, w2, -⟩, -, -, hLe, -⟩, -, sq, -⟩ := ww
  obtain ⟨n, hnn⟩ : ∃ n, L.length = n := ⟨_, rfl⟩
  have v31 : zm S (v + 3) 1 = (n : Int) := by rw [wp.2.2.1, hnn]
  obtain ⟨e1, e2, e3, e4, e5⟩ := qWr_c w1
  have hQ : qQj S k b x w t j ↔ qyAs (qTm (zm S) (zm S 49 b)) (zm S 39 (zm S 49 b)) (zm S 50 b) (qgl (qFj S k x w t v) n) W dg st bg mk := by
    unfold qQj qLj
    rw [hv, v31, Int.toNat_natCast, e1, e2, e3, e4, e5]
  obtain ⟨m0, m18, m20, m24⟩ := hm
  have k18 : qSk S 18 19 := ⟨K_18 hK, K_19 hK⟩
  have k20 : qWk S 20 21 22 := ⟨K_20 hK, K_21 hK, K_22 hK, by decide, by decide, by decide⟩
  have big : ∀ (m' : Int → Int → Int), qfw 20 21 22 m m' → ∀ z, ¬ (18 ≤ z ∧ z ≤ 22) → m' z = zm S z := fun m' hf z hz => by rw [hf z (by omega) (by omega) (by omega), m0 z hz]
  have cell : ∀ (m' : Int → Int → Int), qfw 20 21 22 m m' → ∀ i, 0 ≤ i → i < (n : Int) → zD (e - 1) 41 [vr y, vi (qtp1 (zm S) t v i), vi (qtp2 (zm S) t v i), vi (qtp3 (zm S) v i)] (qW S m') = some (.inl (some (vi (qFj S k x w t v i))), qW S m') := fun m' hf i i1 i2 => by
    obtain ⟨u1, u2, u3, -⟩ := iall i i1 (by omega)
    have r := big m' hf
    have := s_copyCell (e - 1) (qW S m') k b x y w t P' (qtp1 (zm S) t v i) (qtp2 (zm S) t v i) (qtp3 (zm S) v i) (by omega) (qCi_cq q0 x103 r) kx (by show m' x 3 = w; rw [r x (by omega), x3]) (by show m' x 4 = t; rw [r x (by omega), x4t]) (by show m' y 1 = x; rw [r y (by omega), y1]) wr tr u1 ⟨by omega, u2.2⟩ u3
    rw [this]
    unfold qFj qfv
    show some (Sum.inl (some (vi (if m' 85 (160 * k + qtp1 (zm S) t v i) = 0 then qfwx (m' (x + 2)) (fun q => m' 83 (6 * k + q)) 6 ((qtp1 (zm S) t v i * t + qtp2 (zm S) t v i) * w + qtp3 (zm S) v i).toNat else 0))), qW S m') = _
    rw [r 85 (by decide), r 83 (by decide), r (x + 2) (by omega)]
  have rm : ∀ z, 22 < z → zm (qW S m) z = zm S z := fun z hz => m0 z (by omega)
  have nI : (n : Int) = L.length := by rw [hnn]
  have I16 : n ≤ 16 := by omega
  obtain ⟨m1, r1, f1, q1⟩ := s_gather e (qW S m) x y t v (v + 3) (v + 4) (v + 5) (fM j) (fU j) (zm S v 2) (zm S v 3) (zm S v 4) (zm S v 5) (qspz (zm S) v) L (fE j) n (qFj S k x w t v) (by omega) v103 (by omega) x103 (by omega) kv ky kx (by rw [rm y (by omega), y1]) (by rw [rm x (by omega), x4t]) (by rw [rm v (by omega), v1]) (by rw [rm v (by omega)]) (by rw [rm v (by omega)]) (by rw [rm v (by omega)]) (by rw [rm v (by omega)]) ⟨kv3, kv4, kv5, by omega, by omega, by omega⟩ (qWp_o wp (rm _ (by omega)) (rm _ (by omega)) (rm _ (by omega))) ⟨by omega, by omega⟩ E4 hnn I16 sp ⟨s0, by omega⟩ k20 m20 m24 ⟨⟨i20, by omega⟩, ⟨by omega, by omega⟩, ⟨i40, by omega⟩⟩
    (fun m' hf i i1 i2 c => by
      obtain ⟨g1, g2, g3⟩ := qtp_a (t := t) c
      have := cell m' hf i i1 i2
      rw [g1, g2, g3] at this
      exact this)
    (fun m' hf i i1 i2 c d => by
      obtain ⟨g1, g2, g3⟩ := qtp_b (t := t) c d
      have := cell m' hf i i1 i2
      rw [g1, g2, g3] at this
      exact this)
    (fun m' hf i i1 i2 c d => by
      obtain ⟨g1, g2, g3⟩ := qtp_c (t := t) c d
      have := cell m' hf i i1 i2
      rw [g1, g2, g3] at this
      exact this)
  have f1 : qfw 20 21 22 m m1 := f1
  have b1_ := big m1 f1
  have r18 : m1 18 0 = 19 := by rw [f1 18 (by decide) (by decide) (by decide), m18]
  obtain ⟨A, hA⟩ : ∃ A, qgl (qFj S k x w t v) n = A := ⟨_, rfl⟩
  have Al : A.length = n := by rw [← hA, qgl_l]
  rw [hA] at q1 hQ
  have hR : qRW (qW S m1) 20 21 22 18 19 0 0 A [] := ⟨k20, q1, ⟨by omega, by omega⟩, k18⟩
  have co1 : qCo (qW S m1) (zm S 6 (zm S 49 b)) (zm S 39 (zm S 49 b)) (qTm (zm S) (zm S 49 b)) := qCo_k co fun z hz => b1_ z (by
    intro q
    have hz2 : z = 18 ∨ z = 19 ∨ z = 20 ∨ z = 21 ∨ z = 22 := by omega
    rcases hz2 with rfl | rfl | rfl | rfl | rfl
    · rw [K_18 hK] at hz; revert hz; decide
    · rw [K_19 hK] at hz; revert hz; decide
    · rw [K_20 hK] at hz; revert hz; decide
    · rw [K_21 hK] at hz; revert hz; decide
    · rw [K_22 hK] at hz; revert hz; decide)
  have L1 : qLt (zm (qW S m1)) := fun q hq => by
    rw [qmW, b1_ 2 (by decide)]
    exact hL q hq
  obtain ⟨m2, u, r2, f2, p2⟩ := s_readWord e (qW S m1) (zm S 6 (zm S 49 b)) (zm S 39 (zm S 49 b)) (zm S 50 b) 20 21 22 18 19 0 0 (qTm (zm S) (zm S 49 b)) A [] (by omega) hK L1 co1 tk hR r18
  have f2 : qfs 18 19 m1 m2 := f2
  have b2_ : ∀ z, ¬ (18 ≤ z ∧ z ≤ 22) → m2 z = zm S z := fun z hz => by rw [f2.1 z (by omega) (by omega), b1_ z hz]
  have ci : qCi S m2 := ⟨b2_, by rw [f2.2, r18], by rw [f2.1 20 (by decide) (by decide)]; exact q1.1, by rw [f2.1 20 (by decide) (by decide)]; exact q1.2.1⟩
  have same : qyCl (qTm (zm S) (zm S 49 b)) (zm S 39 (zm S 49 b)) (zm S 50 b) A W dg st bg mk ↔ qQj S k b x w t j := (qy_same (by omega) co.2.2.2.1.1 tk w2 (fun d1 d2 d3 => by
    rw [← hA] at d2 d3 ⊢
    rw [← hnn] at d2 d3 ⊢
    have wd := w2.2.2.1.resolve_left (fun q => by omega)
    have b0 : bg = 0 := wd.2.1
    rw [d1, b0] at hLe
    exact hX st mk _ _ _ T' W hLe w2.2.1 wd.2.2.2 w2.2.2.2.2.1 d2 d3 n0)).trans hQ.symm
  have sq2 : qSq (zm (qW S m2)) (v + 1) (v + 2) W st dg bg (qmc mk) := qSq_o sq (b2_ _ (by omega)) (b2_ _ (by omega))
  have z1 : z32 (sum + 1) = sum + 1 := q32 (by omega)
  have z2 : z32 ((j : Int) + 1) = (j : Int) + 1 := z32_s j (by omega)
  have e3b : m 3 15 = 20 := by rw [m0 3 (by decide)]; exact P_3_15 hP
  have e3c : m1 3 14 = 18 := by rw [b1_ 3 (by decide)]; exact P_3_14 hP
  have e3d : m1 3 15 = 20 := by rw [b1_ 3 (by decide)]; exact P_3_15 hP
  have e3e : m2 3 14 = 18 := by rw [b2_ 3 (by decide)]; exact P_3_14 hP
  have my1 : m y 1 = x := by rw [m0 y (by omega), y1]
  have my1a : m1 y 1 = x := by rw [b1_ y (by omega), y1]
  have mx7 : m x 7 = zm S 54 b := by rw [m0 x (by omega), x7]
  have mx6 : m x 6 = x + 1 := by rw [m0 x (by omega), x6]
  have mxj : m (x + 1) (j : Int) = v := by rw [m0 _ (by omega), hv]
  have mx1 : m1 x 1 = zm S 6 (zm S 49 b) := by rw [b1_ x (by omega), x1a]
  have mx2 : m1 x 2 = zm S 50 b := by rw [b1_ x (by omega), x2g]
  have mv0 : m2 v 0 = v + 1 := by rw [b2_ v (by omega), v0]
  have j0 : 0 ≤ (j : Int) := Int.natCast_nonneg j
  have j80 : (j : Int) < 80 := Int.ofNat_lt.mpr (Nat.lt_of_lt_of_le jJ J80)
  refine ⟨m2, ?_, ci⟩
  have nj : ((j + 1 : Nat) : Int) = (j : Int) + 1 := rfl
  rw [nj]
  rcases p2 with ⟨rfl, K, k1, k2, k3⟩ | ⟨rfl, k1⟩
  · obtain ⟨z, rz, hz, gz⟩ := s_isSameWord e (qW S m2) 18 19 (v + 1) (v + 2) _ _ _ _ st dg bg (qmc mk) K W (by omega) k18 k3 ⟨kv1, kv2⟩ sq2 k2
    have run := s_misRun1 e S m m1 m2 x y v (zm S 6 (zm S 49 b)) (zm S 50 b) sum (zm S 54 b) j x4 (K_3 hK) (K_18 hK) ky kx kx1 kv co.1 my1 mx7 mx6 mxj e3b e3c e3d my1a mx1 mx2 e3e mv0 hj j0 j80 z1 z2 r1 r2 z hz rz
    have ez : z = qc (qQj S k b x w t j) := by
      by_cases c : qQj S k b x w t j
      · rw [qc_p c]
        obtain ⟨g1, g2, g3, g4, g5⟩ := same.mpr c
        have kw : K = W := qyK_u k1 g1
        exact gz.mpr ⟨g2, g3, g4, by rw [kw]; exact g5, kw⟩
      · rw [qc_n c]
        refine hz.resolve_right fun q => c (same.mp ?_)
        obtain ⟨g2, g3, g4, g5, kw⟩ := gz.mp q
        rw [kw] at k1 g5
        exact ⟨k1, g2, g3, g4, g5⟩
    rw [← ez]
    exact run
  · have run := s_misRun0 e S m m1 m2 x y v (zm S 6 (zm S 49 b)) (zm S 50 b) sum (zm S 54 b) j x4 (K_3 hK) (K_18 hK) ky kx kx1 kv co.1 my1 mx7 mx6 mxj e3b e3c e3d my1a mx1 mx2 e3e mv0 hj j0 j80 z1 z2 r1 r2
    have nq : ¬ qQj S k b x w t j := fun c => by
      have h1 := k1 W (same.mpr c).1
      have h2 := w2.1.2
      omega
    rw [qc_n nq]
    exact run
theorem s_countMisread (d : Nat) (S : zS) (k b x y w t P : Int) (J : Nat) (h : 10 ≤ d) (hH : qHC S) (hq : qCq S k b x y w t P) (y1 : zm S y 1 = x) (hJ : zm S 54 b = (J : Int)) :
    ∃ m', zD d 169 [vr 3, vr y] S = some (.inl (some (vi (qmis (qQj S k b x w t) J))), qW S m') ∧ qCi S m' := by
  obtain ⟨e, rfl, he⟩ := qd h
  have hK := hH.1.1.1.1
  have hP := hH.1.1.1.2.1
  have hY := hH.1.1.2.2.2
  have q0 := hq
  obtain ⟨⟨a1, a2, a3, a4, a5, a6⟩, ⟨b1, b2, b3, b4, b5, b6⟩, ⟨ky, ky1, ky2, y103, yn⟩, -⟩ := hq
  obtain ⟨⟨kx, kx1, kx2, x103, xn⟩, -, -, -, -, -, -, ⟨x7, -, J80⟩, -⟩ := hY.2.1 b b1 b2
  rw [a2] at kx x103 x7
  rw [hJ] at x7 J80
  have lp : ∀ (G j : Nat) (m : Int → Int → Int) (x4 : zV), j + G = J → qCi S m → ∃ m', zF_169 e 4 [vr 3, vr y, vi (qmis (qQj S k b x w t) j), vi (j : Int), x4] [] (qW S m) = some (.inl (some (vi (qmis (qQj S k b x w t) J))), qW S m') ∧ qCi S m' := by
    intro G
    induction G with
    | zero =>
      intro j m x4 hj hm
      obtain rfl : j = J := by omega
      refine ⟨m, ?_, hm⟩
      have my1 : m y 1 = x := by rw [hm.1 y (by omega), y1]
      have mx7 : m x 7 = (j : Int) := by rw [hm.1 x (by omega), x7]
      rw [b169_4]
      simp (config := { maxSteps := 2000000 }) (disch := first | omega | (simp only [ky, kx, my1, qb_in, qkW, qmW, qnW, true_and, and_true, or_self, true_or, or_true, and_self]; done) | (simp only [ky, kx, my1, qb_in, qkW, qmW, qnW, true_and, and_true, or_self, true_or, or_true, and_self]; omega)) only [b169_0, b169_15, b169_33, b169_36, b169_58, b169_61, b169_64, b169_76, b169_79, b169_82, b169_88, qcall_l, qcall_r, qretn_l, qJ_s, qJ_n, qV0, qEx, ↓qif0, ↓zchk_pos, ↓reduceIte, qput, qWW, qmW, qkW, qnW, ky, kx, my1, mx7, if_neg (Int.lt_irrefl (j : Int))]
    | succ G ih =>
      intro j m x4 hj hm
      have qr := qmis_r (qQj S k b x w t) j
      obtain ⟨m1, r1, i1⟩ := s_misStep e S m k b x y w t P (qmis (qQj S k b x w t) j) j x4 (by omega) hH q0 y1 (by rw [hJ]; omega) ⟨by omega, by omega⟩ hm
      obtain ⟨m2, r2, i2⟩ := ih (j + 1) m1 vu (by omega) i1
      rw [qmis] at r2
      exact ⟨m2, by rw [r1, r2], i2⟩
  obtain ⟨m', r, q⟩ := lp J 0 (zm S) vu (by omega) ⟨fun _ _ => rfl, P_18_0 hP, P_20_0 hP, P_20_4 hP⟩
  refine ⟨m', ?_, q⟩
  have r : zF_169 e 4 [vr 3, vr y, vi 0, vi 0, vu] [] (qW S (zm S)) = some (.inl (some (vi (qmis (qQj S k b x w t) J))), qW S m') := r
  rw [qWS] at r
  simp (config := { maxSteps := 2000000 }) (disch := first | omega | (simp only [qb_in, qkW, qmW, qnW, true_and, and_true, or_self, true_or, or_true, and_self]; done) | (simp only [qb_in, qkW, qmW, qnW, true_and, and_true, or_self, true_or, or_true, and_self]; omega)) only [zD_169, b169_0, b169_15, b169_33, b169_36, b169_58, b169_61, b169_64, b169_76, b169_79, b169_82, b169_88, qcall_l, qcall_r, qretn_l, qJ_s, qJ_n, qV0, qEx, ↓qif0, ↓zchk_pos, ↓reduceIte, qput, qWW, qmW, qkW, qnW]
  exact r
