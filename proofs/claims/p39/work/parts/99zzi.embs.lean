/-! A copy is made: the class. -/
theorem s_countCl (d : Nat) (S : zS) (x w t P : Int) (h : 1 ≤ d) (kx : zk S x = (20, 0)) (kc : zk S (x + 2) = (3, qbl w t)) (x3 : zm S x 3 = w) (x4 : zm S x 4 = t) (x8 : zm S x 8 = x + 2) (x9 : zm S x 9 = P) (wr : 18 ≤ w ∧ w ≤ 40) (tr : 3 ≤ t ∧ t ≤ 25) (hP : 0 ≤ P ∧ P ≤ qmp t) : zD d 2 [vr x] S = some (.inl (some (vi (P * (t * w)))), S) ∧ 0 ≤ P * (t * w) ∧ P * (t * w) ≤ qbl w t ∧ qbl w t ≤ 14520 := by
  obtain ⟨e, rfl, -⟩ := qd h
  obtain ⟨-, -, q3, q4, -⟩ := qmp_r tr
  have bl := qbl_r tr wr
  have asc : P * (t * w) = P * t * w := (Int.mul_assoc _ _ _).symm
  have h0 : 0 ≤ P * t := Int.mul_nonneg hP.1 (by omega)
  have h1 : P * t ≤ qmp t * t := Int.mul_le_mul_of_nonneg_right hP.2 (by omega)
  have h2 : P * t * w ≤ qbl w t := Int.mul_le_mul_of_nonneg_right h1 (by omega)
  have h3 : 0 ≤ P * t * w := Int.mul_nonneg h0 (by omega)
  have z1 : z32 (P * t) = P * t := q32 (by omega)
  have z2 : z32 (P * t * w) = P * t * w := q32 (by omega)
  rw [asc]
  refine ⟨?_, h3, h2, bl.2⟩
  simp (config := { maxSteps := 2000000 }) (disch := first | omega | (simp only [kx, x8, kc, qb_in, qkW, qmW, qnW, true_and, and_true, or_self, true_or, or_true, and_self]; done) | (simp only [kx, x8, kc, qb_in, qkW, qmW, qnW, true_and, and_true, or_self, true_or, or_true, and_self]; omega)) only [zD_2, b2_0, b2_18, qcall_l, qcall_r, qretn_l, qJ_s, qJ_n, qV0, qEx, ↓qif0, ↓zchk_pos, ↓reduceIte, qput, qWW, qmW, qkW, qnW, kx, x3, x4, x8, x9, kc, z1, z2, if_neg (show ¬ qbl w t < P * t * w by omega)]
theorem s_copyInit (d : Nat) (S : zS) (y b x w t P N : Int) (h : 2 ≤ d) (ky : zk S y = (24, 0)) (h0 : 0 < y ∧ y < N) (hN : (zn S : Int) = N) (hxy : x ≠ y ∧ x < N ∧ x + 2 < N) (kx : zk S x = (20, 0)) (kc : zk S (x + 2) = (3, qbl w t)) (x3 : zm S x 3 = w) (x4 : zm S x 4 = t) (x8 : zm S x 8 = x + 2) (x9 : zm S x 9 = P) (wr : 18 ≤ w ∧ w ≤ 40) (tr : 3 ≤ t ∧ t ≤ 25) (hP : 0 ≤ P ∧ P ≤ qmp t) :
    zD d 39 [vr y, vi b, vr x] S = some (.inl none, qW (zalloc (zalloc S 3 (P * (t * w)) (P * (t * w)).toNat) 4 P P.toNat) (qu (qz (qu (qz (qu (qu (qu (qu (zm S) y 6 (-1)) y 7 (-1)) y 0 b) y 1 x) N) y 2 N) (N + 1)) y 3 (N + 1))) := by
  obtain ⟨e, rfl, he⟩ := qd h
  subst hN
  obtain ⟨m1, hm1⟩ : ∃ m1, qu (qu (qu (qu (zm S) y 6 (-1)) y 7 (-1)) y 0 b) y 1 x = m1 := ⟨_, rfl⟩
  have mx : m1 x = zm S x := by rw [← hm1, qu_o _ _ _ _ _ hxy.1, qu_o _ _ _ _ _ hxy.1, qu_o _ _ _ _ _ hxy.1, qu_o _ _ _ _ _ hxy.1]
  obtain ⟨cc, c1, c2, c3⟩ := s_countCl e (qW S m1) x w t P (by omega) kx kc (by show m1 x 3 = w; rw [mx, x3]) (by show m1 x 4 = t; rw [mx, x4]) (by show m1 x 8 = x + 2; rw [mx, x8]) (by show m1 x 9 = P; rw [mx, x9]) wr tr hP
  obtain ⟨-, q2, -⟩ := qmp_r tr
  obtain ⟨n, hn⟩ : ∃ n, P * (t * w) = n := ⟨_, rfl⟩
  rw [hn] at cc c1 c2 ⊢
  have f1 : (if (0 : Int) < n then n else 0) = n := by
    by_cases c : 0 < n
    · exact if_pos c
    · rw [if_neg c]; omega
  have f2 : (if (0 : Int) < P then P else 0) = P := by
    by_cases c : 0 < P
    · exact if_pos c
    · rw [if_neg c]; omega
  have g1 : 0 ≤ n ∧ n ≤ 1000000 := ⟨c1, by omega⟩
  have g2 : 0 ≤ P ∧ P ≤ 1000000 := ⟨hP.1, by omega⟩
  have e9 : qu (qz m1 (zn S)) y 2 (zn S) x 9 = P := by rw [qu_o _ _ _ _ _ hxy.1, qz_o _ (by omega), mx, x9]
  simp (config := { maxSteps := 2000000 }) (disch := first | omega | (simp only [qal_n, ky, kx, qal_o, f1, f2, e9, g1.1, g1.2, g2.1, g2.2, qb_in, qkW, qmW, qnW, true_and, and_true, or_self, true_or, or_true, and_self]; done) | (simp only [qal_n, ky, kx, qal_o, f1, f2, e9, g1.1, g1.2, g2.1, g2.2, qb_in, qkW, qmW, qnW, true_and, and_true, or_self, true_or, or_true, and_self]; omega)) only [zD_39, b39_0, b39_16, b39_30, b39_38, b39_52, qcall_l, qcall_r, qretn_l, qJ_s, qJ_n, qV0, qEx, ↓qif0, ↓zchk_pos, ↓reduceIte, qput, qWW, qmW, qkW, qnW, qalW, qal_n, qal_o, qal_m, ky, kx, hm1, cc, f1, f2, e9]
theorem s_emboss (e : Nat) (S : zS) (k c b x w t P : Int) (n : Nat) (f cp : Int → Int) (he : 5 ≤ e) (hH : qHC S) (hk : zm S 37 65 = k) (hk20 : k < 20) (hb : 0 ≤ b ∧ b < zm S 37 16) (hx : zm S 8 b = x) (hc : 0 ≤ c ∧ c < 3) (hw : zm S 51 b = w) (ht : zm S 52 b = t) (hP : zm S x 9 = P) (h54 : 0 < zm S 54 b) (hn : P * (t * w) = (n : Int)) (hf : zm S (x + 2) = f) (hcp : ∀ q, 0 ≤ q → q < 6 → zm S 81 (6 * c + q) = cp q) :
    ∃ T C, zD (e + 1) 137 [vr 3, vi c, vi b] S = some (.inl (some (vi k)), qW T C) ∧ ((zn T : Int) = zn S + 3 ∧ zc T = zc S + 3 ∧ zw T = zw S + 9 + n + P.toNat) ∧ (∀ z, zk T z = if z = (zn S : Int) + 2 then (4, P) else if z = (zn S : Int) + 1 then (3, (n : Int)) else if z = zn S then (24, 0) else zk S z) ∧
      (∀ z : Int, z < zn S → z ≠ 3 → z ≠ 13 → z ≠ 10 + c → z ≠ x → C z = zm S z) ∧ ((∀ j, j ≠ 9 → C 3 j = zm S 3 j) ∧ C 3 9 = k + 1) ∧ (∀ i, C 13 i = if i = k then (zn S : Int) else zm S 13 i) ∧ (∀ q, 0 ≤ q → q < 6 → C (10 + c) q = cp q - qmn (cp q) (qsb f q n)) ∧ ((∀ j, j ≠ 13 → C x j = zm S x j) ∧ C x 13 = zm S x 13 + 1) ∧
      (C (zn S) 0 = b ∧ C (zn S) 1 = x ∧ C (zn S) 2 = (zn S : Int) + 1 ∧ C (zn S) 3 = (zn S : Int) + 2 ∧ C (zn S) 4 = 0 ∧ C (zn S) 5 = qps (fun q => qgm f cp q n) 6 ∧ C (zn S) 6 = -1 ∧ C (zn S) 7 = -1 ∧ C (zn S) 8 = 0) ∧ (∀ i : Nat, i < n → C ((zn S : Int) + 1) i = qfwx f cp 6 i) ∧ (∀ j, C ((zn S : Int) + 2) j = 0) ∧ 0 ≤ P ∧ P ≤ 121 ∧ n ≤ 14520 := by
  obtain ⟨⟨⟨⟨hK, hPp, hL, hn1⟩, -, ⟨p1, p2, p3, p4, p5, p6⟩, hY⟩, hBB⟩, hYC, hFc⟩ := id hH
  obtain ⟨N, hN⟩ : ∃ N : Int, (zn S : Int) = N := ⟨_, rfl⟩
  rw [hN]
  rw [hN] at hn1
  have k0 : 0 ≤ k := by rw [← hk]; exact p4.1.2.1
  have bo := s_bookOf_y e S b (by omega) hK hPp hY.1 hb
  rw [hx] at bo
  obtain ⟨⟨kx, kx1, kx2, x103, xn⟩, -, -, ⟨x3, wr⟩, ⟨x4, tr⟩, -, -, ⟨x7, -⟩, x8, -⟩ := hY.2.1 b hb.1 hb.2
  rw [hx] at kx kx1 kx2 x103 xn x3 x4 x7 x8
  rw [hw] at x3 wr kx2
  rw [ht] at x4 tr kx2
  rw [hN] at xn
  have Pr : 0 ≤ P ∧ P ≤ qmp t ∧ P ≤ 121 := by
    obtain ⟨J, fL, fE, fA, fU, fM, P', ll, w0, -⟩ := hBB b hb.1 hb.2
    obtain ⟨Pr, x9, -⟩ := qB0_P w0 (by rw [hw]; exact wr.1) (by rw [ht]; exact tr)
    rw [hx, hP] at x9
    rw [ht] at Pr
    rw [x9]
    exact Pr
  have n7 : ¬ zm S x 7 = 0 := by rw [x7]; omega
  have e39 : zm S 3 9 = k := by rw [p4.1.1, hk]
  have p7 : zm S 3 7 = 9 := P_3_7 hPp
  have p8 : zm S 3 8 = 13 := P_3_8 hPp
  have hcx : zm S x 13 = qbn (zm S) b (zm S 37 65).toNat := by have := hYC.1 b hb.1 hb.2; rw [hx] at this; exact this
  have hcr := qbn_r (zm S) b (zm S 37 65).toNat
  have cc := (s_countCl 1 S x w t P (by omega) kx kx2 x3 x4 x8 hP wr tr ⟨Pr.1, Pr.2.1⟩).2
  rw [hn] at cc
  have a0 : zm (zalloc S 24 0 9) x = zm S x := by rw [qal_m, hN, qz_o _ (by omega)]
  have ci := s_copyInit e (zalloc S 24 0 9) N b x w t P (N + 1) (by omega) (qal_e _ _ _ _ hN.symm) (by omega) (by rw [qal_n, hN]) ⟨by omega, by omega, by omega⟩ (by rw [qal_o _ _ _ _ (by omega)]; exact kx) (by rw [qal_o _ _ _ _ (by omega)]; exact kx2) (by rw [a0, x3]) (by rw [a0, x4]) (by rw [a0, x8]) (by rw [a0, hP]) wr tr ⟨Pr.1, Pr.2.1⟩
  rw [hn] at ci
  obtain ⟨T, hT⟩ : ∃ T, qW (zalloc (zalloc (zalloc S 24 0 9) 3 (n : Int) ((n : Int)).toNat) 4 P P.toNat) (qu (qz (qu (qz (qu (qu (qu (qu (zm (zalloc S 24 0 9)) N 6 (-1)) N 7 (-1)) N 0 b) N 1 x) (N + 1)) N 2 (N + 1)) (N + 1 + 1)) N 3 (N + 1 + 1)) = T := ⟨_, rfl⟩
  rw [hT] at ci
  have kT : ∀ z, zk T z = if z = N + 2 then (4, P) else if z = N + 1 then (3, (n : Int)) else if z = N then (24, 0) else zk S z := fun z => by
    rw [← hT, ← hN, show (zn S : Int) + 2 = (zn S : Int) + 1 + 1 by omega]; rfl
  have mT : ∀ z, z < N → zm T z = zm S z := fun z hz => by
    rw [← hT, qmW, qu_o _ _ _ _ _ (by omega), qz_o _ (by omega), qu_o _ _ _ _ _ (by omega), qz_o _ (by omega), qu_o _ _ _ _ _ (by omega), qu_o _ _ _ _ _ (by omega), qu_o _ _ _ _ _ (by omega), qu_o _ _ _ _ _ (by omega), qal_m, qz_o _ (by omega)]
  have mN : ∀ j, zm T N j = if j = 3 then N + 2 else if j = 2 then N + 1 else if j = 1 then x else if j = 0 then b else if j = 7 then -1 else if j = 6 then -1 else 0 := fun j => by
    rw [← hT, qmW, qu_row, qz_o _ (by omega), show N + 1 + 1 = N + 2 by omega]
    show (if j = 3 then N + 2 else _) = _
    rw [qu_row, qz_o _ (by omega), qu_row, qu_row, qu_row, qu_row, qal_m, hN]
    show (if j = 3 then N + 2 else if j = 2 then N + 1 else if j = 1 then x else if j = 0 then b else if j = 7 then -1 else if j = 6 then -1 else qz (zm S) N N j) = _
    rw [qz_s]
  have mH : ∀ j, zm T (N + 2) j = 0 := fun j => by
    rw [← hT, qmW, qu_o _ _ _ _ _ (by omega), show N + 1 + 1 = N + 2 by omega, qz_s]
  have nT : (zn T : Int) = N + 3 := by rw [← hT, qnW, qal_n, qal_n, qal_n, hN]; omega
  have zT : zc T = zc S + 3 := by rw [← hT]; rfl
  have wT : zw T = zw S + 9 + n + P.toNat := by
    rw [← hT]
    show zw S + 9 + ((n : Int)).toNat + P.toNat = _
    rw [Int.toNat_natCast]
  have hKT : qK T := qK_g hK (by omega) fun z hz => by rw [kT, if_neg (by omega), if_neg (by omega), if_neg (by omega)]
  have kN : zk T N = (24, 0) := by rw [kT, if_neg (by omega), if_neg (by omega), if_pos rfl]
  have kx' : zk T x = (20, 0) := by rw [kT, if_neg (by omega), if_neg (by omega), if_neg (by omega), kx]
  have kpn : zk T (10 + c) = (0, 6) := by
    have : c = 0 ∨ c = 1 ∨ c = 2 := by omega
    rcases this with rfl | rfl | rfl
    · exact K_10 hKT
    · exact K_11 hKT
    · exact K_12 hKT
  have e3 : zm T 3 = zm S 3 := mT 3 (by omega)
  have mp : ∀ q, 0 ≤ q → q < 6 → zm T (10 + c) q = cp q ∧ 0 ≤ cp q ∧ cp q ≤ 100000 := fun q q1 q2 => by
    obtain ⟨y1, y2, y3⟩ := p1 c q hc.1 hc.2 q1 q2
    rw [hcp q q1 q2] at y1 y2 y3
    rw [mT _ (by omega)]
    exact ⟨y1, y2, y3⟩
  obtain ⟨m1, r1, g1, g2, g3, g4, g5⟩ := s_raise e T x N (10 + c) f cp n (by omega) kx' (qbl w t) (by rw [kT, if_neg (by omega), if_neg (by omega), if_neg (by omega), kx2]) (by omega) kN (by rw [kT, if_neg (by omega), if_pos rfl]) kpn ⟨by omega, by omega, by omega, by omega, by omega⟩ (by rw [mT x (by omega), x8]) (by rw [mN]; rfl) (by rw [mN]; rfl) (by rw [mN]; rfl) (fun i i1 i2 => by rw [mT _ (by omega), hf]) (fun q q1 q2 => (mp q q1 q2).1) (fun q q1 q2 => (mp q q1 q2).2) (by omega)
  have g4' : ∀ z, z < N → z ≠ 10 + c → m1 z = zm S z := fun z z1 z2 => by rw [g4 z (by omega) (by omega) z2, mT z z1]
  have i3 : m1 3 = zm S 3 := g4' 3 (by omega) (by omega)
  have ix : m1 x = zm S x := g4' x (by omega) (by omega)
  have zx : z32 (zm S x 13 + 1) = zm S x 13 + 1 := q32 (by omega)
  obtain ⟨m2, hm2⟩ : ∃ m2, qu m1 x 13 (zm S x 13 + 1) = m2 := ⟨_, rfl⟩
  have j3 : m2 3 = zm S 3 := by rw [← hm2, qu_o _ _ _ _ _ (by omega), i3]
  have j39 : m2 3 9 = k := by rw [j3, e39]
  have j38 : m2 3 8 = 13 := by rw [j3, p8]
  have j3' : qu m2 13 k N 3 9 = k := by rw [qu_o _ _ _ _ _ (by decide), j39]
  have zk1 : z32 (k + 1) = k + 1 := q32 (by omega)
  have zk2 : z32 (k + 1 - 1) = k := by rw [q32 (by omega)]; omega
  have s9 : qu (qu m2 13 k N) 3 9 (k + 1) 3 9 = k + 1 := qu_s _ _ _ _
  have l3 : zm T 3 7 = 9 := by rw [e3, p7]
  have l9 : zm T 9 c = 10 + c := by
    rw [mT 9 (by omega)]
    have : c = 0 ∨ c = 1 ∨ c = 2 := by omega
    rcases this with rfl | rfl | rfl
    · exact P_9_0 hPp
    · exact P_9_1 hPp
    · exact P_9_2 hPp
  refine ⟨T, qu (qu m2 13 k N) 3 9 (k + 1), ?_, ⟨nT, zT, wT⟩, kT, fun z z1 z2 z3 z4 z5 => ?_, ⟨fun j hj => ?_, s9⟩, fun i => ?_, fun q q1 q2 => ?_, ⟨fun j hj => ?_, ?_⟩, ⟨?_, ?_, ?_, ?_, ?_, ?_, ?_, ?_, ?_⟩, fun i hi => ?_, fun j => ?_, Pr.1, Pr.2.2, by omega⟩
  · simp (config := { maxSteps := 2000000 }) (disch := first | omega | (simp only [K_3 hK, K_3 hKT, K_9 hKT, K_13 hKT, kx, e39, hN, kN, l3, l9, kx', ix, j39, j38, j3', hc.1, hc.2, k0, hk20, qb_in, qkW, qmW, qnW, true_and, and_true, or_self, true_or, or_true, and_self]; done) | (simp only [K_3 hK, K_3 hKT, K_9 hKT, K_13 hKT, kx, e39, hN, kN, l3, l9, kx', ix, j39, j38, j3', hc.1, hc.2, k0, hk20, qb_in, qkW, qmW, qnW, true_and, and_true, or_self, true_or, or_true, and_self]; omega)) only [zD_137, b137_0, b137_4, b137_9, b137_20, b137_25, b137_33, b137_42, b137_53, b137_62, b137_75, b137_93, b137_110, qcall_l, qcall_r, qretn_l, qJ_s, qJ_n, qV0, qEx, ↓qif0, ↓zchk_pos, ↓reduceIte, qput, qWW, qmW, qkW, qnW, K_3 hK, K_3 hKT, K_9 hKT, K_13 hKT, if_neg (show ¬ c < 0 by omega), if_pos hc.2, bo, kx, if_neg n7, e39, if_pos hk20, hN, ci, kN, l3, l9, r1, kx', ix, zx, hm2, j39, j38, j3', zk1, s9, zk2]
  · rw [qu_o _ _ _ _ _ z2, qu_o _ _ _ _ _ z3, ← hm2, qu_o _ _ _ _ _ z5, g4' z z1 z4]
  · rw [qu_i _ _ _ _ _ hj, qu_o _ _ _ _ _ (by decide), j3]
  · rw [qu_o _ _ _ _ _ (by decide), qu_row, ← hm2, qu_o _ _ _ _ _ (by omega), g4' 13 (by omega) (by omega)]
  · rw [qu_o _ _ _ _ _ (by omega), qu_o _ _ _ _ _ (by omega), ← hm2, qu_o _ _ _ _ _ (by omega), g2 q q1 q2]
  · rw [qu_o _ _ _ _ _ (by omega), qu_o _ _ _ _ _ (by omega), ← hm2, qu_i _ _ _ _ _ hj, ix]
  · rw [qu_o _ _ _ _ _ (by omega), qu_o _ _ _ _ _ (by omega), ← hm2, qu_s]
  · rw [qu_o _ _ _ _ _ (by omega), qu_o _ _ _ _ _ (by omega), ← hm2, qu_o _ _ _ _ _ (by omega), g5 0 (by decide), mN]; rfl
  · rw [qu_o _ _ _ _ _ (by omega), qu_o _ _ _ _ _ (by omega), ← hm2, qu_o _ _ _ _ _ (by omega), g5 1 (by decide), mN]; rfl
  · rw [qu_o _ _ _ _ _ (by omega), qu_o _ _ _ _ _ (by omega), ← hm2, qu_o _ _ _ _ _ (by omega), g5 2 (by decide), mN]; rfl
  · rw [qu_o _ _ _ _ _ (by omega), qu_o _ _ _ _ _ (by omega), ← hm2, qu_o _ _ _ _ _ (by omega), g5 3 (by decide), mN]; rfl
  · rw [qu_o _ _ _ _ _ (by omega), qu_o _ _ _ _ _ (by omega), ← hm2, qu_o _ _ _ _ _ (by omega), g5 4 (by decide), mN]; rfl
  · rw [qu_o _ _ _ _ _ (by omega), qu_o _ _ _ _ _ (by omega), ← hm2, qu_o _ _ _ _ _ (by omega), g3]
  · rw [qu_o _ _ _ _ _ (by omega), qu_o _ _ _ _ _ (by omega), ← hm2, qu_o _ _ _ _ _ (by omega), g5 6 (by decide), mN]; rfl
  · rw [qu_o _ _ _ _ _ (by omega), qu_o _ _ _ _ _ (by omega), ← hm2, qu_o _ _ _ _ _ (by omega), g5 7 (by decide), mN]; rfl
  · rw [qu_o _ _ _ _ _ (by omega), qu_o _ _ _ _ _ (by omega), ← hm2, qu_o _ _ _ _ _ (by omega), g5 8 (by decide), mN]; rfl
  · rw [qu_o _ _ _ _ _ (by omega), qu_o _ _ _ _ _ (by omega), ← hm2, qu_o _ _ _ _ _ (by omega), g1 i hi]
  · rw [qu_o _ _ _ _ _ (by omega), qu_o _ _ _ _ _ (by omega), ← hm2, qu_o _ _ _ _ _ (by omega), g4 (N + 2) (by omega) (by omega) (by omega), mH]
