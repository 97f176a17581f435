/-! Words misread of a copy: the reference. -/
abbrev qoA : List Int := [64, 65, 66, 67, 68, 69]
abbrev qoJ : List Int := [32, 33, 34, 36, 37, 38, 40, 42, 43, 45, 46]
/-- the reference has felt a copy -/
def qFl (S : zS) (m1 : Int → Int → Int) (k b x w t P : Int) : Prop := (∀ z i, ¬ (qfly z i ∨ z = 102 ∨ (18 ≤ z ∧ z ≤ 22) ∨ z = 89 ∨ (z = 37 ∧ (i = 0 ∨ i = 75))) → m1 z i = zm S z i) ∧ qFtS S m1 k x w t P ∧ qHB1 (qW S m1) ∧ qLd (qW S m1) b
theorem qFl_q {S : zS} {m1 m : Int → Int → Int} (h : qfr qoA qoJ m1 m) : qFq (qW S m1) m := fun z i hz => by
  have hz : ¬ qscf z i := fun q => hz (Or.inl q)
  by_cases c : z = 37
  · subst c
    refine h.2 i fun q => hz ?_
    unfold qscf
    simp only [qoJ, List.mem_cons, List.not_mem_nil, or_false] at q
    omega
  · have e := h.1 z c fun q => hz (by
      unfold qscf
      simp only [qoA, List.mem_cons, List.not_mem_nil, or_false] at q
      omega)
    show m z i = m1 z i
    rw [e]
theorem r_misStep (e : Nat) (S : zS) (m1 m : Int → Int → Int) (k b x y w t P : Int) (j : Nat) (he : 9 ≤ e) (hH : qHC S) (hk : 0 ≤ k ∧ k < zm S 37 65) (hq : qCq S k b x y w t P) (hj : (j : Int) < zm S 54 b) (hm1 : qFl S m1 k b x w t P) (hm : qfr qoA qoJ m1 m) :
    ∃ m', zD (e + 1) 284 [vr 37, vi k, vi (j : Int)] (qW S m) = some (.inl (some (vi (qc (qQj S k b x w t j)))), qW S m') ∧ qfr qoA qoJ m1 m' := by
  obtain ⟨⟨⟨⟨hK, hP, hL, hn⟩, ⟨hT, hC, hR, hkk⟩, ⟨p1, p2, p3, p4, p5, p6⟩, hY⟩, hBB⟩, hYC, hFc⟩ := id hH
  obtain ⟨⟨a1, a2, a3, a4, a5, a6⟩, ⟨b1, b2, b3, b4, b5, b6⟩, -⟩ := hq
  obtain ⟨⟨kx, kx1, kx2, x103, xn⟩, ⟨xc, x1a, c1, c2⟩, -, ⟨x3, wr⟩, ⟨x4t, tr⟩, -⟩ := hY.2.1 b b1 b2
  rw [a2] at x103 xn
  rw [a4] at wr
  rw [a5] at tr
  have k20 : k < 20 := by have := p4.1.2; omega
  have bb4 : b < 4 := by have := hY.1.2; omega
  have d12 := hR.2.1
  have rcS := qRC_r hC c1 c2
  obtain ⟨cb, co, tk, -⟩ := qRC_1 hC c1 c2
  obtain ⟨J, fL, fE, fA, fU, fM, P', l0, h0, -⟩ := hBB b b1 b2
  rw [a2, a4, a5] at h0
  have hJ := h0.1.1
  have jJ : j < J := by omega
  have J80 := h0.1.2.1
  have eP : P' = P := by rw [← (qB0_P h0 wr.1 tr).2.1, a6]
  subst eP
  have Pt : P' * t ≤ 363 := by
    obtain ⟨Pr, -, -⟩ := qB0_P h0 wr.1 tr
    obtain ⟨-, -, q3, -⟩ := qmp_r tr
    have : P' * t ≤ qmp t * t := Int.mul_le_mul_of_nonneg_right (by omega) (by omega)
    omega
  obtain ⟨v, hv⟩ : ∃ v, zm S (x + 1) j = v := ⟨_, rfl⟩
  obtain ⟨⟨i20, i31, i3t, i40, i4w, i2P⟩, ⟨s0, sn⟩, iall⟩ := q_wordIn h0 wr tr jJ hv
  have ww := (h0.2.1 j jJ).1
  rw [hv] at ww
  have n0 := qWw_0 ww
  have ho := qB_J h0 j jJ
  obtain ⟨L, hLj⟩ : ∃ L, fL j = L := ⟨_, rfl⟩
  rw [hLj] at ww sn iall n0 ho
  have L16 := ho.1
  obtain ⟨⟨-, -, v103, vn⟩, wp⟩ := qWw_b ww
  -- where it lies laid
  obtain ⟨ag1, F1, H1, l1⟩ := hm1
  have lo : ∀ z i, (z = 8 ∨ (39 ≤ z ∧ z ≤ 61) ∨ (81 ≤ z ∧ z ≤ 88) ∨ 103 ≤ z ∨ (z = 37 ∧ (i = 12 ∨ i = 16))) → m1 z i = zm S z i := fun z i hz => ag1 z i (by unfold qfly; omega)
  have lor : ∀ z, (z = 8 ∨ (39 ≤ z ∧ z ≤ 61) ∨ (81 ≤ z ∧ z ≤ 88) ∨ 103 ≤ z) → m1 z = zm S z := fun z hz => funext fun i => lo z i (by omega)
  have lay : m1 73 (j : Int) = zm S v 2 * (t - 1) + (zm S v 3 - 1) ∧ m1 74 (j : Int) = zm S v 4 ∧ m1 77 (j : Int) = qspz (zm S) v := by
    obtain ⟨J', gL, gE, gA, gU, gM, P2, l2, g0, gz⟩ := qBB_l (H1.2 b b1 (by show b < m1 37 16; rw [lo 37 16 (by omega)]; exact b2)) l1
    have g54 := g0.1.1
    have g54 : m1 54 b = (J' : Int) := g54
    rw [lor 54 (by omega), hJ] at g54
    obtain ⟨u1, u2⟩ := g0.2.1 j (by omega)
    have u3 := gz.2.1 j (by omega)
    have e8 : zm (qW S m1) 8 b = x := by show m1 8 b = x; rw [lor 8 (by omega), a2]
    have ev : zm (qW S m1) (zm (qW S m1) 8 b + 1) (j : Int) = v := by rw [e8]; show m1 (x + 1) (j : Int) = v; rw [lor (x + 1) (by omega), hv]
    have e5 : zm (qW S m1) 52 b = t := by show m1 52 b = t; rw [lor 52 (by omega), a5]
    rw [ev] at u1 u2
    rw [e5] at u2
    have u4 := qspz_e (qWw_b u1).2
    obtain ⟨pp, l, ⟨t1, t2, t3, t4⟩, t5, t6, t7, t8, -⟩ := u2
    obtain ⟨s1, s2, -, -, s5, -⟩ := u3
    rw [e5] at s1 s2 s5
    have ez : qspz m1 v = qspz (zm S) v := by unfold qspz; rw [lor v (by omega), lor (v + 3) (by omega), lor (v + 5) (by omega)]
    have t5 : m1 v 2 = pp - 1 := t5
    have t6 : m1 v 3 = l := t6
    rw [lor v (by omega)] at t5 t6
    have t7 : m1 v 4 = _ := t7
    rw [lor v (by omega)] at t7
    refine ⟨?_, ?_, ?_⟩
    · rw [t5, t6]
      exact s1.trans (by omega)
    · rw [t7]
      exact s2
    · rw [← ez]
      refine s5.trans ?_
      rw [← t8]
      exact u4
  obtain ⟨l73, l74, l77⟩ := lay
  obtain ⟨W, dg, st, bg, mk, c', N', g', T', pp, ⟨⟨w1, w2, -⟩, ⟨v49, v50, rc', tk'⟩, ⟨q1, q2, q3⟩, hLe, -⟩, -⟩ := ww
  obtain ⟨n, hnn⟩ : ∃ n, L.length = n := ⟨_, rfl⟩
  have v31 : zm S (v + 3) 1 = (n : Int) := by rw [wp.2.2.1, hnn]
  obtain ⟨e1, e2, e3, e4, e5⟩ := qWr_c w1
  have hQ : qQj S k b x w t j ↔ qyAs (qTm (zm S) (zm S 49 b)) (zm S 39 (zm S 49 b)) (zm S 50 b) (qgl (qFj S k x w t v) n) W dg st bg mk := by
    unfold qQj qLj
    rw [hv, v31, Int.toNat_natCast, e1, e2, e3, e4, e5]
  -- the word is opened
  have hPm : qP m := qP_fr H1.1.1.2.1 hm (by decide)
  have fr : ∀ m', qfr qoA qoJ m1 m' → ∀ z, ((39 ≤ z ∧ z ≤ 61) ∨ z = 8 ∨ (81 ≤ z ∧ z ≤ 88)) → m' z = zm S z := fun m' hf z hz => by
    rw [hf.1 z (by omega) (fun q => by simp only [qoA, List.mem_cons, List.not_mem_nil, or_false] at q; omega), lor z (by omega)]
  have m12 : m 37 12 = zm S 37 12 := by rw [hm.2 12 (by decide), lo 37 12 (by omega)]
  have rm := fr m hm
  obtain ⟨h55, h56, h57, h59, h60, h58⟩ := id w1
  obtain ⟨mo, ro, oq, -, -, -, -, oR, of⟩ := r_opens e (qW S m) b j (80 * b + j) c' N' g' (pp : Int) T' W dg st bg mk (by omega) hK hPm (by show 0 ≤ m 37 12 ∧ m 37 12 ≤ 12; rw [m12]; exact d12) rfl ⟨b1, bb4⟩ ⟨by omega, by omega⟩ ⟨by rw [qmW, rm 55 (by omega)]; exact h55, by rw [qmW, rm 56 (by omega)]; exact h56, by rw [qmW, rm 57 (by omega)]; exact h57, by rw [qmW, rm 59 (by omega)]; exact h59, by rw [qmW, rm 60 (by omega)]; exact h60, by rw [qmW, rm 58 (by omega)]; exact h58⟩ w2 (by rw [qmW, rm 49 (by omega)]; exact v49) (by rw [qmW, rm 50 (by omega)]; exact v50) (qRc_f rc' fun z z1 z2 => rm z (by omega)) tk' (by rw [← q1]; exact qPw_e m12 (rm 46 (by omega)) (rm 47 (by omega)) (rm 48 (by omega)) _ _)
  rw [← hLe] at oq
  have of : qfr qoA qoJ m mo := of
  have omo : qfr qoA qoJ m1 mo := qfr_t' hm of (fun _ h => h) (fun _ h => h)
  have hPo : qP mo := qP_fr hPm of (by decide)
  have n45 : mo 37 45 = (n : Int) := by rw [oq.1, hnn]
  have n16 : (n : Int) ≤ 16 := by omega
  -- it is felt
  have cell : ∀ m', qfr [67] [] mo m' → ∀ i, 0 ≤ i → i < (n : Int) → zD e 282 [vr 37, vi k, vi (j : Int), vi i] (qW S m') = some (.inl (some (vi (qFj S k x w t v i))), qW S m') := fun m' hf i i1 i2 => by
    have om : qfr qoA qoJ m1 m' := qfr_t' omo hf (by decide) (fun _ h => absurd h (by simp))
    have r := fr m' om
    obtain ⟨⟨u1, u1b⟩, ⟨u2, u2b⟩, ⟨u3, u3b⟩, -, u5⟩ := iall i i1 (by omega)
    have hP' : qP m' := qP_fr H1.1.1.2.1 om (by decide)
    have r7 : ∀ z, z = 73 ∨ z = 74 ∨ z = 77 ∨ z = 89 → m' z = m1 z := fun z hz => om.1 z (by omega) (fun q => by simp only [qoA, List.mem_cons, List.not_mem_nil, or_false] at q; omega)
    have pt0 : 0 ≤ qtp1 (zm S) t v i * t := Int.mul_nonneg u1 (by omega)
    have pt1 : qtp1 (zm S) t v i * t + t ≤ P' * t := qixm (by omega) u1b
    have ec : (if i < qspz (zm S) v then zm S v 4 + i else i - qspz (zm S) v) = qtp3 (zm S) v i := rfl
    have := r_feltOf e (qW S m') k b t j i (zm S v 2 * (t - 1) + (zm S v 3 - 1)) (zm S v 4) (qspz (zm S) v) (qtp1 (zm S) t v i) (qtp2 (zm S) t v i - 1) (qtp3 (zm S) v i) (by omega) hK hP' ⟨hk.1, k20⟩ (by show m' 82 k = b; rw [r 82 (by omega), a1]) ⟨b1, bb4⟩ (by show m' 52 b = t; rw [r 52 (by omega), a5]) tr ⟨by omega, by omega⟩ (by show m' 73 _ = _; rw [r7 73 (by omega), l73]) (by show m' 74 _ = _; rw [r7 74 (by omega), l74]) (by show m' 77 _ = _; rw [r7 77 (by omega), l77]) u5 ⟨by omega, by omega⟩ ⟨u1, by omega⟩ ec ⟨u3, by omega⟩ (by rw [show qtp2 (zm S) t v i - 1 + 1 = qtp2 (zm S) t v i by omega]; omega)
    rw [show qtp2 (zm S) t v i - 1 + 1 = qtp2 (zm S) t v i by omega] at this
    rw [this]
    unfold qFj qfv
    show some (Sum.inl (some (vi (if m' 85 (160 * k + qtp1 (zm S) t v i) = 0 then m' 89 (40 * (qtp1 (zm S) t v i * t + qtp2 (zm S) t v i) + qtp3 (zm S) v i) else 0))), qW S m') = _
    rw [r 85 (by omega), r7 89 (by omega), F1 _ _ _ u1 u1b (by omega) u2b u3 u3b]
  obtain ⟨A, hA⟩ : ∃ A, qgl (qFj S k x w t v) n = A := ⟨_, rfl⟩
  have Al : A.length = n := by rw [← hA, qgl_l]
  obtain ⟨m2, rl, f2, v2⟩ := r_asLoop e (qW S mo) k j b n (qFj S k x w t v) hK hPo n16 cell n 0 mo vu vu vu (Int.le_refl _) (by omega) (qfr_r _ _ _) (fun q q1 q2 => by omega)
  have f2 : qfr [67] [] mo m2 := f2
  have rl : zF_284 e 22 [vr 37, vi k, vi (j : Int), vi b, vi (n : Int), vi 0, vu, vu, vu] [] (qW S mo) = zF_284 e 50 [vr 37, vi k, vi (j : Int), vi b, vi (n : Int), vi (n : Int), vu, vu, vu] [] (qW S m2) := rl
  have kA : qA (zm (qW S m2)) 67 A := by rw [← hA]; exact qgl_A v2
  have om2 : qfr qoA qoJ m1 m2 := qfr_t' omo f2 (by decide) (fun _ h => absurd h (by simp))
  have hP2 : qP m2 := qP_fr H1.1.1.2.1 om2 (by decide)
  have r2 := fr m2 om2
  have oR2 : qRx m2 W pp dg st bg mk := by
    obtain ⟨y1, y2, y3, y4, y5, y6, y7⟩ := oR
    refine ⟨?_, ?_, ?_, ?_, ?_, ?_, ?_⟩
    · rw [f2.2 36 (by simp)]; exact y1
    · rw [f2.2 38 (by simp)]; exact y2
    · rw [f2.2 32 (by simp)]; exact y3
    · rw [f2.2 33 (by simp)]; exact y4
    · rw [f2.2 34 (by simp)]; exact y5
    · rw [f2.2 37 (by simp)]; exact y6
    · rw [f2.1 64 (by decide) (by decide)]; exact y7
  have A16 : 0 < A.length ∧ A.length ≤ 16 := by omega
  have sA := r_asA e (qW S m2) b st A (vi k) (vi (j : Int)) (vi (n : Int)) vu vu vu hK hP2 kA A16.1 oR2.2.2.1
  have sB := r_asB e (qW S m2) b (if qys A = st then 1 else 0) A hK hP2 kA A16.2
  have sC := r_asC e (qW S m2) b (if qys A = st then 1 else 0) A (by omega) hK hP2 kA A16
  obtain ⟨m3, u, sD, f3, hu, gu⟩ := r_asD e (qW S m2) b (zm S 49 b) (zm S 39 (zm S 49 b)) (zm S 50 b) (qTm (zm S) (zm S 49 b)) W A pp dg st bg mk (by omega) hK hP2 oR2 w2 (by rw [qmW, r2 49 (by omega)]) (by rw [qmW, r2 50 (by omega)]) ⟨b1, bb4⟩ (qRc_f rcS fun z z1 z2 => r2 z (by omega)) tk kA A16
  have f3 : qfr [68, 69] [] m2 m3 := f3
  have run := sA.trans (sB.trans (sC.trans sD))
  rw [Al] at run
  rw [← rl] at run
  have uq : u = qc (qQj S k b x w t j) := by
    rw [hA] at hQ
    by_cases c : qQj S k b x w t j
    · rw [qc_p c]
      exact gu.mpr (hQ.mp c)
    · rw [qc_n c]
      exact hu.resolve_right fun q => c (hQ.mpr (gu.mp q))
  refine ⟨m3, ?_, qfr_t' om2 f3 (by decide) (fun _ h => absurd h (by simp))⟩
  rw [← uq]
  have p66 : m 37 66 = 82 := P_37_66 hPm
  have m82 : m 82 k = b := by rw [rm 82 (by omega), a1]
  have t37 := K_37 hK
  have t82 := K_82 hK
  have hk0 := hk.1
  clear iall cell fr lo lor ag1 F1 H1 l1 kA oR2 hQ gu hPm hPo hP2 hBB hYC hFc hH h0 p1 p2 p3 p4 p5 p6 sA sB sC sD rl rm r2 l73 l74 l77 oR of omo om2
  simp (config := { maxSteps := 2000000 }) (disch := first | (simp only [t37, t82, p66, hk0, k20, qb_in, qkW, qmW, qnW, true_and, and_true, or_self, true_or, or_true, and_self]; done) | omega | (simp only [t37, t82, p66, hk0, k20, qb_in, qkW, qmW, qnW, true_and, and_true, or_self, true_or, or_true, and_self]; omega)) only [zD_284, b284_0, b284_13, b284_29, b284_43, b284_50, b284_61, b284_65, b284_66, b284_74, b284_78, b284_79, b284_86, b284_90, b284_91, b284_102, b284_109, b284_121, b284_130, b284_139, b284_151, b284_154, b284_158, b284_159, b284_166, b284_171, b284_183, b284_186, b284_187, b284_194, b284_203, b284_211, b284_217, b284_225, b284_229, b284_230, b284_237, b284_245, b284_252, b284_254, b284_269, b284_272, b284_276, b284_277, qcall_l, qcall_r, qretn_l, qJ_s, qJ_n, qV0, qEx, ↓qif0, ↓zchk_pos, ↓reduceIte, qput, qWW, qmW, qkW, qnW, t37, t82, p66, m82, ro, n45, run]
theorem z32_j {j J : Nat} (h : (j : Int) < (J : Int)) (h2 : (J : Int) ≤ 80) : z32 ((j : Int) + 1) = ((j + 1 : Nat) : Int) := z32_s j (by omega)
theorem z32_q {a : Int} {j J : Nat} (h : 0 ≤ a ∧ a ≤ (j : Int)) (h1 : (j : Int) < (J : Int)) (h2 : (J : Int) ≤ 80) : z32 (a + 1) = a + 1 ∧ z32 (a + 0) = a := ⟨q32 (by omega), by rw [q32 (by omega)]; omega⟩
theorem r_misread (d : Nat) (S : zS) (m : Int → Int → Int) (k b x y w t P : Int) (J : Nat) (h : 13 ≤ d) (hH : qHC S) (hk : 0 ≤ k ∧ k < zm S 37 65) (hq : qCq S k b x y w t P) (hJ : zm S 54 b = (J : Int)) (m1 : Int → Int → Int) (rf : zD (d - 1) 278 [vr 37, vi k] (qW S m) = some (.inl none, qW S m1)) (hm1 : qFl S m1 k b x w t P) :
    ∃ m', zD d 286 [vr 37, vi k] (qW S m) = some (.inl (some (vi (qmis (qQj S k b x w t) J))), qW S m') ∧ qfr qoA qoJ m1 m' := by
  obtain ⟨e, rfl, he⟩ := qd h
  have rf : zD e 278 [vr 37, vi k] (qW S m) = some (.inl none, qW S m1) := rf
  have hK := hH.1.1.1.1
  have hY := hH.1.1.2.2.2
  have n65 := hH.1.1.2.2.1.2.2.2.1.1.2
  have q0 := hq
  obtain ⟨⟨a1, a2, a3, a4, a5, a6⟩, ⟨b1, b2, b3, b4, b5, b6⟩, -⟩ := hq
  have k20 : k < 20 := by omega
  have bb4 : b < 4 := by have := hY.1.2; omega
  have J80 := (hY.2.1 b b1 b2).2.2.2.2.2.2.2.1.2.2
  rw [hJ] at J80
  have hk0 := hk.1
  have t37 := K_37 hK
  have t82 := K_82 hK
  have t54 := K_54 hK
  have fx : ∀ m', qfr qoA qoJ m1 m' → m' 37 66 = 82 ∧ m' 37 22 = 54 ∧ m' 82 k = b ∧ m' 54 b = (J : Int) := fun m' hf => by
    have hP' : qP m' := qP_fr hm1.2.2.1.1.1.2.1 hf (by decide)
    refine ⟨P_37_66 hP', P_37_22 hP', ?_, ?_⟩
    · rw [hf.1 82 (by decide) (by decide), hm1.1 82 k (by unfold qfly; omega), a1]
    · rw [hf.1 54 (by decide) (by decide), hm1.1 54 b (by unfold qfly; omega), hJ]
  have lp : ∀ (G j : Nat) (m : Int → Int → Int), j + G = J → qfr qoA qoJ m1 m → ∃ m', zF_286 e 9 [vr 37, vi k, vi (qmis (qQj S k b x w t) j), vi (j : Int)] [] (qW S m) = some (.inl (some (vi (qmis (qQj S k b x w t) J))), qW S m') ∧ qfr qoA qoJ m1 m' := by
    intro G
    induction G with
    | zero =>
      intro j m hj hm
      obtain rfl : j = J := by omega
      obtain ⟨f1, f2, f3, f4⟩ := fx m hm
      refine ⟨m, ?_, hm⟩
      rw [b286_9]
      simp (config := { maxSteps := 2000000 }) (disch := first | (simp only [t37, t82, t54, f1, f2, f3, hk0, k20, b1, bb4, qb_in, qkW, qmW, qnW, true_and, and_true, or_self, true_or, or_true, and_self]; done) | omega | (simp only [t37, t82, t54, f1, f2, f3, hk0, k20, b1, bb4, qb_in, qkW, qmW, qnW, true_and, and_true, or_self, true_or, or_true, and_self]; omega)) only [b286_0, b286_5, b286_24, b286_31, b286_34, b286_38, b286_39, b286_47, qcall_l, qcall_r, qretn_l, qJ_s, qJ_n, qV0, qEx, ↓qif0, ↓zchk_pos, ↓reduceIte, qput, qWW, qmW, qkW, qnW, t37, t82, t54, f1, f2, f3, f4, if_neg (Int.lt_irrefl (j : Int))]
    | succ G ih =>
      intro j m hj hm
      obtain ⟨f1, f2, f3, f4⟩ := fx m hm
      have qr := qmis_r (qQj S k b x w t) j
      have jl : (j : Int) < (J : Int) := by omega
      obtain ⟨m2, r2, i2⟩ := r_misStep (e - 1) S m1 m k b x y w t P j (by omega) hH hk q0 (by rw [hJ]; exact jl) hm1 hm
      rw [show e - 1 + 1 = e by omega] at r2
      obtain ⟨m3, r3, i3⟩ := ih (j + 1) m2 (by omega) i2
      rw [qmis] at r3
      refine ⟨m3, ?_, i3⟩
      have z2 : z32 ((j : Int) + 1) = ((j + 1 : Nat) : Int) := z32_j jl J80
      obtain ⟨a, ha⟩ : ∃ a, qmis (qQj S k b x w t) j = a := ⟨_, rfl⟩
      obtain ⟨u, hu⟩ : ∃ u, qc (qQj S k b x w t j) = u := ⟨_, rfl⟩
      have ur : u = 0 ∨ u = 1 := by have := qc_r (qQj S k b x w t j); omega
      rw [ha, hu] at r3
      rw [hu] at r2
      rw [ha] at qr ⊢
      obtain ⟨z1, z0⟩ := z32_q qr jl J80
      clear ih fx hm1 hm i2 i3 rf
      rw [b286_9]
      rcases ur with rfl | rfl
      · rw [show a + (1 - 0) = a + 1 by omega] at r3
        simp (config := { maxSteps := 2000000 }) (disch := first | (simp only [t37, t82, t54, f1, f2, f3, hk0, k20, b1, bb4, qb_in, qkW, qmW, qnW, true_and, and_true, or_self, true_or, or_true, and_self]; done) | omega | (simp only [t37, t82, t54, f1, f2, f3, hk0, k20, b1, bb4, qb_in, qkW, qmW, qnW, true_and, and_true, or_self, true_or, or_true, and_self]; omega)) only [b286_0, b286_5, b286_24, b286_31, b286_34, b286_38, b286_39, b286_47, qcall_l, qcall_r, qretn_l, qJ_s, qJ_n, qV0, qEx, ↓qif0, ↓zchk_pos, ↓reduceIte, qput, qWW, qmW, qkW, qnW, t37, t82, t54, f1, f2, f3, f4, if_pos jl, r2, z1, z2, r3, Int.reduceEq]
      · rw [show a + (1 - 1) = a by omega] at r3
        simp (config := { maxSteps := 2000000 }) (disch := first | (simp only [t37, t82, t54, f1, f2, f3, hk0, k20, b1, bb4, qb_in, qkW, qmW, qnW, true_and, and_true, or_self, true_or, or_true, and_self]; done) | omega | (simp only [t37, t82, t54, f1, f2, f3, hk0, k20, b1, bb4, qb_in, qkW, qmW, qnW, true_and, and_true, or_self, true_or, or_true, and_self]; omega)) only [b286_0, b286_5, b286_24, b286_31, b286_34, b286_38, b286_39, b286_47, qcall_l, qcall_r, qretn_l, qJ_s, qJ_n, qV0, qEx, ↓qif0, ↓zchk_pos, ↓reduceIte, qput, qWW, qmW, qkW, qnW, t37, t82, t54, f1, f2, f3, f4, if_pos jl, r2, z0, z2, r3, Int.reduceEq]
  obtain ⟨m', r, q⟩ := lp J 0 m1 (by omega) (qfr_r _ _ _)
  refine ⟨m', ?_, q⟩
  have r : zF_286 e 9 [vr 37, vi k, vi 0, vi 0] [] (qW S m1) = some (.inl (some (vi (qmis (qQj S k b x w t) J))), qW S m') := r
  simp (config := { maxSteps := 2000000 }) (disch := first | (simp only [t37, qb_in, qkW, qmW, qnW, true_and, and_true, or_self, true_or, or_true, and_self]; done) | omega | (simp only [t37, qb_in, qkW, qmW, qnW, true_and, and_true, or_self, true_or, or_true, and_self]; omega)) only [zD_286, b286_0, b286_5, b286_24, b286_31, b286_34, b286_38, b286_39, b286_47, qcall_l, qcall_r, qretn_l, qJ_s, qJ_n, qV0, qEx, ↓qif0, ↓zchk_pos, ↓reduceIte, qput, qWW, qmW, qkW, qnW, t37, rf, r]
