/-! A copy is made: the reference. -/
def qEmL (m0 m : Int → Int → Int) (c k : Int) (n : Nat) (f cp : Int → Int) (j : Nat) : Prop :=
  (∀ z i, ¬ (qfly z i ∨ z = 81 ∨ z = 83 ∨ z = 84) → m z i = m0 z i) ∧ (∀ q, 0 ≤ q → q < 6 → m 81 (6 * c + q) = if q < (j : Int) then cp q - qmn (cp q) (qsb f q n) else cp q) ∧ (∀ i, i < 6 * c ∨ 6 * c + 6 ≤ i → m 81 i = m0 81 i) ∧
  (∀ q, 0 ≤ q → q < (j : Int) → m 83 (6 * k + q) = qmn (cp q) (qsb f q n)) ∧ (∀ i, i < 6 * k → m 83 i = m0 83 i) ∧ m 84 k = qps (fun q => qgm f cp q n) j ∧ ∀ i, i ≠ k → m 84 i = m0 84 i
theorem r_embRun1 (e : Nat) (S : zS) (m m1 M2 M3 M4 : Int → Int → Int) (c k b j s W v : Int) (x5 x6 x7 : zV) (hK : qK S) (j0 : 0 ≤ j) (j6 : j < 6) (hc : 0 ≤ c ∧ c < 3) (hk : 0 ≤ k ∧ k < 20) (r1 : zD e 269 [vr 37, vi b, vi j] (qW S m) = some (.inl (some (vi s)), qW S m1)) (p64 : m1 37 64 = 81) (v81 : m1 81 (6 * c + j) = v) (v65 : m1 37 65 = k) (p67 : m1 37 67 = 83) (hM2 : qu m1 83 (6 * k + j) s = M2) (a64 : M2 37 64 = 81) (a81 : M2 81 (6 * c + j) = v) (z5 : z32 (v - s) = v - s) (hM3 : qu M2 81 (6 * c + j) (v - s) = M3) (b65 : M3 37 65 = k) (b68 : M3 37 68 = 84) (b84 : M3 84 k = W) (z6 : z32 (s - s) = s - s) (z7 : z32 (W + (s - s)) = W + (s - s)) (hM4 : qu M3 84 k (W + (s - s)) = M4) (cs : s < v) :
    ∃ x5' x7', zF_276 e 84 [vr 37, vi c, vi b, vu, vi j, x5, x6, x7] [] (qW S m) = zF_276 e 84 [vr 37, vi c, vi b, vu, vi (j + 1), vi x5', vu, vi x7'] [] (qW S M4) := by
  have z1 : z32 (6 * c) = 6 * c := q32 (by omega)
  have z2 : z32 (6 * c + j) = 6 * c + j := q32 (by omega)
  have z3 : z32 (6 * k) = 6 * k := q32 (by omega)
  have z4 : z32 (6 * k + j) = 6 * k + j := q32 (by omega)
  have z8 : z32 (j + 1) = j + 1 := q32 (by omega)
  have y1 : 0 ≤ 6 * c + j := by omega
  have y2 : 6 * c + j < 18 := by omega
  have y3 : 0 ≤ 6 * k + j := by omega
  have y4 : 6 * k + j < 120 := by omega
  have y5 : 0 ≤ k := hk.1
  have y6 : k < 20 := hk.2
  have t6 := K_37 hK
  have t81 := K_81 hK
  have t83 := K_83 hK
  have t84 := K_84 hK
  clear hK hc hk
  refine ⟨s, s, ?_⟩
  rw [b276_84]
  simp (config := { maxSteps := 2000000 }) (disch := first | omega | (simp only [t6, t81, t83, t84, p64, p67, v65, z1, z2, z3, z4, a64, b65, b68, y1, y2, y3, y4, y5, y6, qb_in, qkW, qmW, qnW, true_and, and_true, or_self, true_or, or_true, and_self]; done) | (simp only [t6, t81, t83, t84, p64, p67, v65, z1, z2, z3, z4, a64, b65, b68, y1, y2, y3, y4, y5, y6, qb_in, qkW, qmW, qnW, true_and, and_true, or_self, true_or, or_true, and_self]; omega)) only [b276_0, b276_4, b276_7, b276_12, b276_15, b276_19, b276_20, b276_26, b276_30, b276_39, b276_48, b276_52, b276_53, b276_56, b276_59, b276_61, b276_79, b276_91, b276_98, b276_114, b276_121, b276_126, b276_128, b276_146, b276_160, b276_176, b276_187, b276_205, b276_212, b276_228, b276_237, b276_239, b276_257, qcall_l, qcall_r, qretn_l, qJ_s, qJ_n, qV0, qEx, ↓qif0, ↓zchk_pos, ↓reduceIte, qput, qWW, qmW, qkW, qnW, t6, t81, t83, t84, if_pos j6, r1, p64, v81, v65, p67, z1, z2, z3, z4, if_pos cs, hM2, a64, a81, z5, hM3, b65, b68, b84, z6, z7, hM4, z8]
theorem r_embRun2 (e : Nat) (S : zS) (m m1 M2 M3 M4 : Int → Int → Int) (c k b j s W v : Int) (x5 x6 x7 : zV) (hK : qK S) (j0 : 0 ≤ j) (j6 : j < 6) (hc : 0 ≤ c ∧ c < 3) (hk : 0 ≤ k ∧ k < 20) (r1 : zD e 269 [vr 37, vi b, vi j] (qW S m) = some (.inl (some (vi s)), qW S m1)) (p64 : m1 37 64 = 81) (v81 : m1 81 (6 * c + j) = v) (v65 : m1 37 65 = k) (p67 : m1 37 67 = 83) (hM2 : qu m1 83 (6 * k + j) v = M2) (a64 : M2 37 64 = 81) (a81 : M2 81 (6 * c + j) = v) (z5 : z32 (v - v) = v - v) (hM3 : qu M2 81 (6 * c + j) (v - v) = M3) (b65 : M3 37 65 = k) (b68 : M3 37 68 = 84) (b84 : M3 84 k = W) (z6 : z32 (s - v) = s - v) (z7 : z32 (W + (s - v)) = W + (s - v)) (hM4 : qu M3 84 k (W + (s - v)) = M4) (cs : ¬ s < v) :
    ∃ x5' x7', zF_276 e 84 [vr 37, vi c, vi b, vu, vi j, x5, x6, x7] [] (qW S m) = zF_276 e 84 [vr 37, vi c, vi b, vu, vi (j + 1), vi x5', vu, vi x7'] [] (qW S M4) := by
  have z1 : z32 (6 * c) = 6 * c := q32 (by omega)
  have z2 : z32 (6 * c + j) = 6 * c + j := q32 (by omega)
  have z3 : z32 (6 * k) = 6 * k := q32 (by omega)
  have z4 : z32 (6 * k + j) = 6 * k + j := q32 (by omega)
  have z8 : z32 (j + 1) = j + 1 := q32 (by omega)
  have y1 : 0 ≤ 6 * c + j := by omega
  have y2 : 6 * c + j < 18 := by omega
  have y3 : 0 ≤ 6 * k + j := by omega
  have y4 : 6 * k + j < 120 := by omega
  have y5 : 0 ≤ k := hk.1
  have y6 : k < 20 := hk.2
  have t6 := K_37 hK
  have t81 := K_81 hK
  have t83 := K_83 hK
  have t84 := K_84 hK
  clear hK hc hk
  refine ⟨s, v, ?_⟩
  rw [b276_84]
  simp (config := { maxSteps := 2000000 }) (disch := first | omega | (simp only [t6, t81, t83, t84, p64, p67, v65, z1, z2, z3, z4, a64, b65, b68, y1, y2, y3, y4, y5, y6, qb_in, qkW, qmW, qnW, true_and, and_true, or_self, true_or, or_true, and_self]; done) | (simp only [t6, t81, t83, t84, p64, p67, v65, z1, z2, z3, z4, a64, b65, b68, y1, y2, y3, y4, y5, y6, qb_in, qkW, qmW, qnW, true_and, and_true, or_self, true_or, or_true, and_self]; omega)) only [b276_0, b276_4, b276_7, b276_12, b276_15, b276_19, b276_20, b276_26, b276_30, b276_39, b276_48, b276_52, b276_53, b276_56, b276_59, b276_61, b276_79, b276_91, b276_98, b276_114, b276_121, b276_126, b276_128, b276_146, b276_160, b276_176, b276_187, b276_205, b276_212, b276_228, b276_237, b276_239, b276_257, qcall_l, qcall_r, qretn_l, qJ_s, qJ_n, qV0, qEx, ↓qif0, ↓zchk_pos, ↓reduceIte, qput, qWW, qmW, qkW, qnW, t6, t81, t83, t84, if_pos j6, r1, p64, v81, v65, p67, z1, z2, z3, z4, if_neg cs, hM2, a64, a81, z5, hM3, b65, b68, b84, z6, z7, hM4, z8]
theorem r_embStep (e : Nat) (S : zS) (m0 m : Int → Int → Int) (c k b x w t P : Int) (n : Nat) (f cp : Int → Int) (j : Nat) (he : 12 ≤ e) (hb : 0 ≤ b) (hc : 0 ≤ c ∧ c < 3) (hk : 0 ≤ k ∧ k < 20) (h16 : b < m0 37 16) (h65 : m0 37 65 = k) (h8 : m0 8 b = x) (h51 : m0 51 b = w) (h52 : m0 52 b = t) (h9 : m0 x 9 = P) (hf : m0 (x + 2) = f) (hx : 103 ≤ x) (hn : P * (t * w) = (n : Int)) (hn2 : n ≤ 14520) (hcp : ∀ q, 0 ≤ q → q < 6 → 0 ≤ cp q ∧ cp q ≤ 100000) (hj : j < 6) (x5 x6 x7 : zV) (hH : qHB1 (qW S m)) (hL : qEmL m0 m c k n f cp j) :
    ∃ m' x5' x7', zF_276 e 84 [vr 37, vi c, vi b, vu, vi (j : Int), x5, x6, x7] [] (qW S m) = zF_276 e 84 [vr 37, vi c, vi b, vu, vi ((j + 1 : Nat) : Int), vi x5', vu, vi x7'] [] (qW S m') ∧ qHB1 (qW S m') ∧ qEmL m0 m' c k n f cp (j + 1) := by
  have hK : qK S := hH.1.1.1
  obtain ⟨g0, g1, g1', g3, g3', g4, g4'⟩ := hL
  have e37 : ∀ i, ¬ qfly 37 i → m 37 i = m0 37 i := fun i hi => g0 37 i (by intro q; rcases q with q | q; exact hi q; omega)
  have j0 : 0 ≤ (j : Int) := Int.natCast_nonneg j
  have j6 : (j : Int) < 6 := Int.ofNat_lt.mpr hj
  obtain ⟨m1, r1, f1, H1, -⟩ := r_dotsOf e (qW S m) b j (by omega) hH (by show 0 ≤ b ∧ b < m 37 16; rw [e37 16 (by unfold qfly; omega)]; exact ⟨hb, h16⟩) ⟨j0, j6⟩
  have ex : ∀ z i, 103 ≤ z ∨ z = 8 ∨ z = 51 ∨ z = 52 → m z i = m0 z i := fun z i hz => g0 z i (by unfold qfly; omega)
  rw [show zm (qW S m) 8 b = x by show m 8 b = x; rw [ex 8 b (by omega), h8], show zm (qW S m) (x + 2) = f by show m (x + 2) = f; rw [← hf]; exact funext fun i => ex _ i (by omega), show zm (qW S m) x 9 = P by show m x 9 = P; rw [ex x 9 (by omega), h9], show zm (qW S m) 52 b = t by show m 52 b = t; rw [ex 52 b (by omega), h52], show zm (qW S m) 51 b = w by show m 51 b = w; rw [ex 51 b (by omega), h51], hn, Int.toNat_natCast] at r1
  obtain ⟨s, hs⟩ : ∃ s, qsb f j n = s := ⟨_, rfl⟩
  have sr := qsb_r f j n
  have cr := hcp j j0 j6
  obtain ⟨u, hu⟩ : ∃ u, qmn (cp j) s = u := ⟨_, rfl⟩
  have ur : 0 ≤ u ∧ u ≤ cp j ∧ u ≤ s ∧ (s < cp j → u = s) ∧ (¬ s < cp j → u = cp j) := by
    rw [← hu]
    unfold qmn
    rw [hs] at sr
    split <;> omega
  have gmj : qgm f cp j n = s - u := by unfold qgm; rw [hs, hu]
  have pr := qps_r f cp n j (fun q q1 q2 => (hcp q q1 (by omega)).1)
  have jb : (j : Int) * (n : Int) ≤ 6 * (n : Int) := Int.mul_le_mul_of_nonneg_right (Int.le_of_lt j6) (Int.natCast_nonneg _)
  rw [hs] at r1 sr
  have o1 : ∀ z i, ¬ qfly z i → m1 z i = m z i := f1
  have v81 : m1 81 (6 * c + j) = cp j := by rw [o1 81 _ (by unfold qfly; omega), g1 j j0 j6, if_neg (Int.lt_irrefl _)]
  have v65 : m1 37 65 = k := by rw [o1 37 65 (by unfold qfly; omega), e37 65 (by unfold qfly; omega), h65]
  have hP1 := H1.1.1.2.1
  have p64 : m1 37 64 = 81 := P_37_64 hP1
  have p67 : m1 37 67 = 83 := P_37_67 hP1
  have p68 : m1 37 68 = 84 := P_37_68 hP1
  have v84 : m1 84 k = qps (fun q => qgm f cp q n) j := by rw [o1 84 k (by unfold qfly; omega), g4]
  obtain ⟨W, hW⟩ : ∃ W, qps (fun q => qgm f cp q n) j = W := ⟨_, rfl⟩
  rw [hW] at pr v84
  have z5 : z32 (cp j - u) = cp j - u := q32 (by omega)
  have z6 : z32 (s - u) = s - u := q32 (by omega)
  have z7 : z32 (W + (s - u)) = W + (s - u) := q32 (by omega)
  obtain ⟨M2, hM2⟩ : ∃ M, qu m1 83 (6 * k + j) u = M := ⟨_, rfl⟩
  have O2 : ∀ z, z ≠ 83 → M2 z = m1 z := fun z hz => by rw [← hM2, qu_o _ _ _ _ _ hz]
  obtain ⟨M3, hM3⟩ : ∃ M, qu M2 81 (6 * c + j) (cp j - u) = M := ⟨_, rfl⟩
  have O3 : ∀ z, z ≠ 81 → M3 z = M2 z := fun z hz => by rw [← hM3, qu_o _ _ _ _ _ hz]
  obtain ⟨M4, hM4⟩ : ∃ M, qu M3 84 k (W + (s - u)) = M := ⟨_, rfl⟩
  have O4 : ∀ z, z ≠ 84 → M4 z = M3 z := fun z hz => by rw [← hM4, qu_o _ _ _ _ _ hz]
  have a64 : M2 37 64 = 81 := by rw [O2 37 (by decide), p64]
  have a81 : M2 81 (6 * c + j) = cp j := by rw [O2 81 (by decide), v81]
  have b65 : M3 37 65 = k := by rw [O3 37 (by decide), O2 37 (by decide), v65]
  have b68 : M3 37 68 = 84 := by rw [O3 37 (by decide), O2 37 (by decide), p68]
  have b84 : M3 84 k = W := by rw [O3 84 (by decide), O2 84 (by decide), v84]
  have run : ∃ x5' x7', zF_276 e 84 [vr 37, vi c, vi b, vu, vi (j : Int), x5, x6, x7] [] (qW S m) = zF_276 e 84 [vr 37, vi c, vi b, vu, vi ((j + 1 : Nat) : Int), vi x5', vu, vi x7'] [] (qW S M4) := by
    have n1 : ((j + 1 : Nat) : Int) = (j : Int) + 1 := rfl
    rw [n1]
    by_cases cs : s < cp j
    · obtain rfl : u = s := ur.2.2.2.1 cs
      exact r_embRun1 e S m m1 M2 M3 M4 c k b j u W (cp j) x5 x6 x7 hK j0 j6 hc hk r1 p64 v81 v65 p67 hM2 a64 a81 z5 hM3 b65 b68 b84 z6 z7 hM4 cs
    · have hcu : u = cp j := ur.2.2.2.2 cs
      rw [hcu] at hM2 z5 hM3 z6 z7 hM4
      exact r_embRun2 e S m m1 M2 M3 M4 c k b j s W (cp j) x5 x6 x7 hK j0 j6 hc hk r1 p64 v81 v65 p67 hM2 a64 a81 z5 hM3 b65 b68 b84 z6 z7 hM4 cs
  obtain ⟨x5', x7', run⟩ := run
  refine ⟨M4, x5', x7', run, qHB1_p H1 fun z i h1 h2 => by rw [O4 z (fun q => h1 ⟨by rw [q]; decide, by rw [q]; decide⟩), O3 z (fun q => h1 ⟨by rw [q]; decide, by rw [q]; decide⟩), O2 z (fun q => h1 ⟨by rw [q]; decide, by rw [q]; decide⟩)], fun z i hz => ?_, fun q q1 q2 => ?_, fun i hi => ?_, fun q q1 q2 => ?_, fun i hi => ?_, ?_, fun i hi => ?_⟩
  · rw [O4 z (by omega), O3 z (by omega), O2 z (by omega), o1 z i (fun q => hz (Or.inl q)), g0 z i hz]
  · rw [O4 81 (by decide), ← hM3, qu_row, O2 81 (by decide)]
    show (if 6 * c + q = 6 * c + (j : Int) then cp j - u else m1 81 (6 * c + q)) = _
    by_cases cq : q = j
    · rw [if_pos (by omega), if_pos (by omega), cq, hs, hu]
    · rw [if_neg (by omega), o1 81 _ (by unfold qfly; omega), g1 q q1 q2]
      by_cases c2 : q < (j : Int)
      · rw [if_pos c2, if_pos (by omega)]
      · rw [if_neg c2, if_neg (by omega)]
  · rw [O4 81 (by decide), ← hM3, qu_i _ _ _ _ _ (by omega), O2 81 (by decide), o1 81 _ (by unfold qfly; omega), g1' i hi]
  · rw [O4 83 (by decide), O3 83 (by decide), ← hM2, qu_row]
    show (if 6 * k + q = 6 * k + (j : Int) then u else m1 83 (6 * k + q)) = _
    by_cases cq : q = j
    · rw [if_pos (by omega), cq, hs, hu]
    · rw [if_neg (by omega), o1 83 _ (by unfold qfly; omega), g3 q q1 (by omega)]
  · rw [O4 83 (by decide), O3 83 (by decide), ← hM2, qu_i _ _ _ _ _ (by omega), o1 83 _ (by unfold qfly; omega), g3' i hi]
  · rw [← hM4, qu_s, qps, hW]
    show _ = W + qgm f cp j n
    rw [gmj]
  · rw [← hM4, qu_i _ _ _ _ _ hi, O3 84 (by decide), O2 84 (by decide), o1 84 _ (by unfold qfly; omega), g4' i hi]
theorem r_embLoop (e : Nat) (S : zS) (m0 : Int → Int → Int) (c k b x w t P : Int) (n : Nat) (f cp : Int → Int) (he : 12 ≤ e) (hb : 0 ≤ b) (hc : 0 ≤ c ∧ c < 3) (hk : 0 ≤ k ∧ k < 20) (h16 : b < m0 37 16) (h65 : m0 37 65 = k) (h8 : m0 8 b = x) (h51 : m0 51 b = w) (h52 : m0 52 b = t) (h9 : m0 x 9 = P) (hf : m0 (x + 2) = f) (hx : 103 ≤ x) (hn : P * (t * w) = (n : Int)) (hn2 : n ≤ 14520) (hcp : ∀ q, 0 ≤ q → q < 6 → 0 ≤ cp q ∧ cp q ≤ 100000) :
    ∀ (G j : Nat) (m : Int → Int → Int) (x5 x6 x7 : zV), j + G = 6 → qHB1 (qW S m) → qEmL m0 m c k n f cp j → ∃ m', zF_276 e 84 [vr 37, vi c, vi b, vu, vi (j : Int), x5, x6, x7] [] (qW S m) = zF_276 e 187 [vr 37, vi c, vi b, vu, vi 6, vu, vu, vu] [] (qW S m') ∧ qHB1 (qW S m') ∧ qEmL m0 m' c k n f cp 6 := by
  intro G
  induction G with
  | zero =>
    intro j m x5 x6 x7 hj hH hL
    obtain rfl : j = 6 := by omega
    refine ⟨m, ?_, hH, hL⟩
    rw [b276_84]
    rw [if_neg (show ¬ ((6 : Nat) : Int) < 6 by decide)]
    rfl
  | succ G ih =>
    intro j m x5 x6 x7 hj hH hL
    obtain ⟨m1, x5', x7', r1, H1, L1⟩ := r_embStep e S m0 m c k b x w t P n f cp j he hb hc hk h16 h65 h8 h51 h52 h9 hf hx hn hn2 hcp (by omega) x5 x6 x7 hH hL
    obtain ⟨m', r, z⟩ := ih (j + 1) m1 (vi x5') vu (vi x7') (by omega) H1 L1
    exact ⟨m', by rw [r1, r], z⟩
theorem r_emboss (e : Nat) (S : zS) (M : Int → Int → Int) (c k b x w t P : Int) (n : Nat) (f cp : Int → Int) (he : 12 ≤ e) (hH : qHB1 (qW S M)) (hb : 0 ≤ b) (hc : 0 ≤ c ∧ c < 3) (hk : 0 ≤ k ∧ k < 20) (h16 : b < M 37 16) (h65 : M 37 65 = k) (h8 : M 8 b = x) (h51 : M 51 b = w) (h52 : M 52 b = t) (h53 : 0 ≤ M 53 b ∧ M 53 b ≤ 1) (h54 : 0 < M 54 b) (h9 : M x 9 = P) (hf : M (x + 2) = f) (hx : 103 ≤ x) (hn : P * (t * w) = (n : Int)) (hn2 : n ≤ 14520) (hP : 0 ≤ P ∧ P ≤ 121) (hcp : ∀ q, 0 ≤ q → q < 6 → M 81 (6 * c + q) = cp q ∧ 0 ≤ cp q ∧ cp q ≤ 100000) (h73 : 0 ≤ M 37 73 ∧ M 37 73 ≤ 100000) :
    ∃ m', zD (e + 1) 276 [vr 37, vi c, vi b] (qW S M) = some (.inl (some (vi k)), qW S m') ∧ qHB1 (qW S m') ∧ (∀ z i, ¬ (qfly z i ∨ (81 ≤ z ∧ z ≤ 84) ∨ z = 86 ∨ z = 87 ∨ (z = 37 ∧ (i = 0 ∨ i = 65 ∨ i = 73))) → m' z i = M z i) ∧ (m' 37 0 = 0 ∧ m' 37 65 = k + 1 ∧ m' 37 73 = M 37 73 + qsh M b) ∧
      (∀ q, 0 ≤ q → q < 6 → m' 81 (6 * c + q) = cp q - qmn (cp q) (qsb f q n)) ∧ (∀ i, i < 6 * c ∨ 6 * c + 6 ≤ i → m' 81 i = M 81 i) ∧ (∀ i, m' 82 i = if i = k then b else M 82 i) ∧ (∀ q, 0 ≤ q → q < 6 → m' 83 (6 * k + q) = qmn (cp q) (qsb f q n)) ∧ (∀ i, i < 6 * k → m' 83 i = M 83 i) ∧ (∀ i, m' 84 i = if i = k then qps (fun q => qgm f cp q n) 6 else M 84 i) ∧ (∀ i, m' 86 i = if i = k then -1 else M 86 i) ∧ ∀ i, m' 87 i = if i = k then -1 else M 87 i := by
  have hK : qK S := hH.1.1.1
  have hPM := hH.1.1.2.1
  have b4 : b < 4 := by have := hH.1.2.2.1.2; have h2 : zm (qW S M) 37 16 = M 37 16 := rfl; omega
  have ie := r_isEmbosser e (qW S M) c (by omega)
  rw [qb_p (show 0 ≤ c ∧ c ≤ 2 by omega)] at ie
  have ib := r_isbook_y e (qW S M) b (by omega) hK hH.1.2.2.1.2 ⟨hb, h16⟩
  have p22 : M 37 22 = 54 := P_37_22 hPM
  have hd := r_hold0 e S M (by omega) hK
  obtain ⟨m1, hm1⟩ : ∃ m, qu M 37 0 0 = m := ⟨_, rfl⟩
  rw [hm1] at hd
  have i1 : ∀ j, j ≠ 0 → m1 37 j = M 37 j := fun j hj => by rw [← hm1, qu_i _ _ _ _ _ hj]
  have o1 : ∀ z, z ≠ 37 → m1 z = M z := fun z hz => by rw [← hm1, qu_o _ _ _ _ _ hz]
  have q65 : m1 37 65 = k := by rw [i1 65 (by decide), h65]
  have q66 : m1 37 66 = 82 := by rw [i1 66 (by decide)]; exact P_37_66 hPM
  obtain ⟨m2, hm2⟩ : ∃ m, qu m1 82 k b = m := ⟨_, rfl⟩
  have o2 : ∀ z, z ≠ 82 → m2 z = m1 z := fun z hz => by rw [← hm2, qu_o _ _ _ _ _ hz]
  have s65 : m2 37 65 = k := by rw [o2 37 (by decide), q65]
  have s68 : m2 37 68 = 84 := by rw [o2 37 (by decide), i1 68 (by decide)]; exact P_37_68 hPM
  obtain ⟨m3, hm3⟩ : ∃ m, qu m2 84 k 0 = m := ⟨_, rfl⟩
  have o3 : ∀ z, z ≠ 84 → m3 z = m2 z := fun z hz => by rw [← hm3, qu_o _ _ _ _ _ hz]
  have O3 : ∀ z, z ≠ 37 → z ≠ 82 → z ≠ 84 → m3 z = M z := fun z z1 z2 z3 => by rw [o3 z z3, o2 z z2, o1 z z1]
  have I3 : ∀ j, j ≠ 0 → m3 37 j = M 37 j := fun j hj => by rw [o3 37 (by decide), o2 37 (by decide), i1 j hj]
  have H3 : qHB1 (qW S m3) := qHB1_p hH fun z i h1 h2 => by
    by_cases q : z = 37
    · subst q; exact I3 i fun q => h2 ⟨rfl, Or.inl q⟩
    · rw [O3 z q (fun q => h1 ⟨by rw [q]; decide, by rw [q]; decide⟩) (fun q => h1 ⟨by rw [q]; decide, by rw [q]; decide⟩)]
  obtain ⟨m4, r4, H4, g0, g1, g1', g3, g3', g4, g4'⟩ := r_embLoop e S m3 c k b x w t P n f cp he hb hc hk (by rw [I3 16 (by decide)]; exact h16) (by rw [I3 65 (by decide)]; exact h65) (by rw [O3 8 (by decide) (by decide) (by decide)]; exact h8) (by rw [O3 51 (by decide) (by decide) (by decide)]; exact h51) (by rw [O3 52 (by decide) (by decide) (by decide)]; exact h52) (by rw [O3 x (by omega) (by omega) (by omega)]; exact h9) (by rw [O3 (x + 2) (by omega) (by omega) (by omega)]; exact hf) hx hn hn2 (fun q q1 q2 => (hcp q q1 q2).2) 6 0 m3 vu vu vu (by omega) H3
    ⟨fun _ _ _ => rfl, fun q q1 q2 => by rw [O3 81 (by decide) (by decide) (by decide), if_neg (show ¬ q < ((0 : Nat) : Int) by omega)]; exact (hcp q q1 q2).1, fun _ _ => rfl, fun q q1 q2 => by omega, fun _ _ => rfl, by rw [← hm3, qu_s]; rfl, fun _ _ => rfl⟩
  have r4 : zF_276 e 84 [vr 37, vi c, vi b, vu, vi 0, vu, vu, vu] [] (qW S m3) = zF_276 e 187 [vr 37, vi c, vi b, vu, vi 6, vu, vu, vu] [] (qW S m4) := r4
  have hP4 : qP m4 := H4.1.1.2.1
  have e4 : ∀ i, ¬ qfly 37 i → m4 37 i = m3 37 i := fun i hi => g0 37 i (by intro q; rcases q with q | q; exact hi q; omega)
  have t65 : m4 37 65 = k := by rw [e4 65 (by unfold qfly; omega), I3 65 (by decide), h65]
  have t70 : m4 37 70 = 86 := P_37_70 hP4
  obtain ⟨m5, hm5⟩ : ∃ m, qu m4 86 k (-1) = m := ⟨_, rfl⟩
  have o5 : ∀ z, z ≠ 86 → m5 z = m4 z := fun z hz => by rw [← hm5, qu_o _ _ _ _ _ hz]
  have u65 : m5 37 65 = k := by rw [o5 37 (by decide), t65]
  have u71 : m5 37 71 = 87 := by rw [o5 37 (by decide)]; exact P_37_71 hP4
  obtain ⟨m6, hm6⟩ : ∃ m, qu m5 87 k (-1) = m := ⟨_, rfl⟩
  have o6 : ∀ z, z ≠ 87 → m6 z = m5 z := fun z hz => by rw [← hm6, qu_o _ _ _ _ _ hz]
  have O6 : ∀ z, z ≠ 86 → z ≠ 87 → m6 z = m4 z := fun z z1 z2 => by rw [o6 z z2, o5 z z1]
  have H6 : qHB1 (qW S m6) := qHB1_p H4 fun z i h1 h2 => by rw [O6 z (fun q => h1 ⟨by rw [q]; decide, by rw [q]; decide⟩) (fun q => h1 ⟨by rw [q]; decide, by rw [q]; decide⟩)]
  have back : ∀ z i, ¬ (qfly z i ∨ (81 ≤ z ∧ z ≤ 84) ∨ z = 86 ∨ z = 87 ∨ (z = 37 ∧ i = 0)) → m6 z i = M z i := fun z i hz => by
    rw [O6 z (by omega) (by omega), g0 z i (by intro q; rcases q with q | q; exact hz (Or.inl q); omega)]
    by_cases q : z = 37
    · subst q; exact I3 i (by omega)
    · rw [O3 z q (by omega) (by omega)]
  obtain ⟨m7, r7, f7, H7, -⟩ := r_pagesOf e (qW S m6) b (by omega) H6 (by show 0 ≤ b ∧ b < m6 37 16; rw [back 37 16 (by unfold qfly; omega)]; exact ⟨hb, h16⟩)
  rw [show zm (qW S m6) 8 b = x by show m6 8 b = x; rw [back 8 b (by unfold qfly; omega), h8], show zm (qW S m6) x 9 = P by show m6 x 9 = P; rw [back x 9 (by unfold qfly; omega), h9]] at r7
  have o7 : ∀ z i, ¬ qfly z i → m7 z i = m6 z i := f7
  have hP7 : qP m7 := H7.1.1.2.1
  have w21 : m7 37 21 = 53 := P_37_21 hP7
  have w53 : m7 53 b = M 53 b := by rw [o7 53 b (by unfold qfly; omega), back 53 b (by unfold qfly; omega)]
  have w73 : m7 37 73 = M 37 73 := by rw [o7 37 73 (by unfold qfly; omega), back 37 73 (by unfold qfly; omega)]
  have w65 : m7 37 65 = k := by rw [o7 37 65 (by unfold qfly; omega), back 37 65 (by unfold qfly; omega), h65]
  have sh : qsh M b = if M 53 b = 0 then P else (P + 1) / 2 := by unfold qsh; rw [h8, h9]
  obtain ⟨sv, hsv⟩ : ∃ sv, qsh M b = sv := ⟨_, rfl⟩
  have sr : 0 ≤ sv ∧ sv ≤ 121 := by rw [← hsv, sh]; split <;> omega
  have z1 : z32 (M 37 73 + sv) = M 37 73 + sv := q32 (by omega)
  obtain ⟨m8, hm8⟩ : ∃ m, qu m7 37 73 (M 37 73 + sv) = m := ⟨_, rfl⟩
  have y65 : m8 37 65 = k := by rw [← hm8, qu_i _ _ _ _ _ (by decide), w65]
  have z2 : z32 (k + 1) = k + 1 := q32 (by omega)
  have z3 : z32 (k + 1 - 1) = k := by rw [q32 (by omega)]; omega
  obtain ⟨m9, hm9⟩ : ∃ m, qu m8 37 65 (k + 1) = m := ⟨_, rfl⟩
  have y9 : m9 37 65 = k + 1 := by rw [← hm9, qu_s]
  have o9 : ∀ z, z ≠ 37 → m9 z = m7 z := fun z hz => by rw [← hm9, qu_o _ _ _ _ _ hz, ← hm8, qu_o _ _ _ _ _ hz]
  have i9 : ∀ i, i ≠ 65 → i ≠ 73 → m9 37 i = m7 37 i := fun i h1 h2 => by rw [← hm9, qu_i _ _ _ _ _ h1, ← hm8, qu_i _ _ _ _ _ h2]
  have L9 : ∀ z i, 81 ≤ z → z ≤ 84 → m9 z i = m4 z i := fun z i z1 z2 => by rw [o9 z (by omega), o7 z i (by unfold qfly; omega), O6 z (by omega) (by omega)]
  refine ⟨m9, ?_, ?_, fun z i hz => ?_, ⟨?_, y9, ?_⟩, fun q q1 q2 => ?_, fun i hi => ?_, fun i => ?_, fun q q1 q2 => ?_, fun i hi => ?_, fun i => ?_, fun i => ?_, fun i => ?_⟩
  · have nz : ¬ M 54 b = 0 := by omega
    have k20 : ¬ k = 20 := by omega
    clear g0 g1 g1' g3 g3' g4 g4' back hcp o1 o2 o3 O3 I3 e4 o5 o6 O6 o7 o9 i9 L9 i1 f7
    have tl : zF_276 e 187 [vr 37, vi c, vi b, vu, vi 6, vu, vu, vu] [] (qW S m4) = some (.inl (some (vi k)), qW S m9) := by
      rw [b276_187]
      by_cases c5 : M 53 b = 0
      · rw [if_pos c5] at sh
        have sh : P = sv := by rw [← hsv, sh]
        rw [← sh] at z1 hm8
        simp (config := { maxSteps := 2000000 }) (disch := first | omega | (simp only [K_37 hK, K_86 hK, K_87 hK, K_53 hK, t65, t70, u65, u71, w21, hk.1, hk.2, qb_in, qkW, qmW, qnW, true_and, and_true, or_self, true_or, or_true, and_self]; done) | (simp only [K_37 hK, K_86 hK, K_87 hK, K_53 hK, t65, t70, u65, u71, w21, hk.1, hk.2, qb_in, qkW, qmW, qnW, true_and, and_true, or_self, true_or, or_true, and_self]; omega)) only [b276_0, b276_4, b276_7, b276_12, b276_15, b276_19, b276_20, b276_26, b276_30, b276_39, b276_48, b276_52, b276_53, b276_56, b276_59, b276_61, b276_79, b276_91, b276_98, b276_114, b276_121, b276_126, b276_128, b276_146, b276_160, b276_176, b276_187, b276_205, b276_212, b276_228, b276_237, b276_239, b276_257, qcall_l, qcall_r, qretn_l, qJ_s, qJ_n, qV0, qEx, ↓qif0, ↓zchk_pos, ↓reduceIte, qput, qWW, qmW, qkW, qnW, K_37 hK, K_86 hK, K_87 hK, K_53 hK, t65, t70, hm5, u65, u71, hm6, r7, w21, w53, if_pos c5, w73, z1, hm8, y65, z2, hm9, y9, z3]
      · rw [if_neg c5] at sh
        have y1 : z32 (P + 1) = P + 1 := q32 (by omega)
        have y2 : Int.tdiv (P + 1) 2 = (P + 1) / 2 := Int.tdiv_eq_ediv_of_nonneg (by omega)
        have y3 : z32 ((P + 1) / 2) = sv := by rw [← hsv, sh]; exact q32 (by omega)
        simp (config := { maxSteps := 2000000 }) (disch := first | omega | (simp only [K_37 hK, K_86 hK, K_87 hK, K_53 hK, t65, t70, u65, u71, w21, hk.1, hk.2, qb_in, qkW, qmW, qnW, true_and, and_true, or_self, true_or, or_true, and_self]; done) | (simp only [K_37 hK, K_86 hK, K_87 hK, K_53 hK, t65, t70, u65, u71, w21, hk.1, hk.2, qb_in, qkW, qmW, qnW, true_and, and_true, or_self, true_or, or_true, and_self]; omega)) only [b276_0, b276_4, b276_7, b276_12, b276_15, b276_19, b276_20, b276_26, b276_30, b276_39, b276_48, b276_52, b276_53, b276_56, b276_59, b276_61, b276_79, b276_91, b276_98, b276_114, b276_121, b276_126, b276_128, b276_146, b276_160, b276_176, b276_187, b276_205, b276_212, b276_228, b276_237, b276_239, b276_257, qcall_l, qcall_r, qretn_l, qJ_s, qJ_n, qV0, qEx, ↓qif0, ↓zchk_pos, ↓reduceIte, qput, qWW, qmW, qkW, qnW, K_37 hK, K_86 hK, K_87 hK, K_53 hK, t65, t70, hm5, u65, u71, hm6, r7, w21, w53, if_neg c5, w73, y1, y2, y3, z1, hm8, y65, z2, hm9, y9, z3, Int.reduceNe]
    simp (config := { maxSteps := 2000000 }) (disch := first | omega | (simp only [K_37 hK, K_54 hK, K_82 hK, K_84 hK, p22, q65, q66, s65, s68, hk.1, hk.2, qb_in, qkW, qmW, qnW, true_and, and_true, or_self, true_or, or_true, and_self]; done) | (simp only [K_37 hK, K_54 hK, K_82 hK, K_84 hK, p22, q65, q66, s65, s68, hk.1, hk.2, qb_in, qkW, qmW, qnW, true_and, and_true, or_self, true_or, or_true, and_self]; omega)) only [zD_276, b276_0, b276_4, b276_7, b276_12, b276_15, b276_19, b276_20, b276_26, b276_30, b276_39, b276_48, b276_52, b276_53, b276_56, b276_59, b276_61, b276_79, b276_91, b276_98, b276_114, b276_121, b276_126, b276_128, b276_146, b276_160, b276_176, b276_205, b276_212, b276_228, b276_237, b276_239, b276_257, qcall_l, qcall_r, qretn_l, qJ_s, qJ_n, qV0, qEx, ↓qif0, ↓zchk_pos, ↓reduceIte, qput, qWW, qmW, qkW, qnW, K_37 hK, K_54 hK, K_82 hK, K_84 hK, ie, ib, p22, if_neg nz, h65, if_neg k20, hd, q65, q66, hm2, s65, s68, hm3, r4, tl, Int.reduceEq]
  · refine qHB1_p H7 fun z i h1 h2 => ?_
    by_cases q : z = 37
    · subst q; exact i9 i (fun q => h2 ⟨rfl, Or.inr (Or.inr (Or.inl q))⟩) (fun q => h2 ⟨rfl, Or.inr (Or.inr (Or.inr (Or.inl q)))⟩)
    · rw [o9 z q]
  · by_cases q : z = 37
    · subst q
      rw [i9 i (by omega) (by omega), o7 37 i (fun q => hz (Or.inl q)), back 37 i (by intro q; rcases q with q | q; exact hz (Or.inl q); omega)]
    · rw [o9 z q, o7 z i (fun q => hz (Or.inl q)), back z i (by intro q; rcases q with q | q; exact hz (Or.inl q); omega)]
  · rw [i9 0 (by decide) (by decide), o7 37 0 (by unfold qfly; omega), O6 37 (by decide) (by decide), e4 0 (by unfold qfly; omega), o3 37 (by decide), o2 37 (by decide), ← hm1, qu_s]
  · rw [← hm9, qu_i _ _ _ _ _ (by decide), ← hm8, qu_s, hsv]
  · rw [L9 81 _ (by decide) (by decide), g1 q q1 q2, if_pos (by omega)]
  · rw [L9 81 _ (by decide) (by decide), g1' i hi, O3 81 (by decide) (by decide) (by decide)]
  · rw [L9 82 _ (by decide) (by decide), g0 82 i (by unfold qfly; omega), o3 82 (by decide), ← hm2, qu_row, o1 82 (by decide)]
  · rw [L9 83 _ (by decide) (by decide), g3 q q1 (by omega)]
  · rw [L9 83 _ (by decide) (by decide), g3' i hi, O3 83 (by decide) (by decide) (by decide)]
  · rw [L9 84 _ (by decide) (by decide)]
    by_cases q : i = k
    · rw [if_pos q, q, g4]
    · rw [if_neg q, g4' i q, ← hm3, qu_i _ _ _ _ _ q, o2 84 (by decide), o1 84 (by decide)]
  · rw [o9 86 (by decide), o7 86 i (by unfold qfly; omega), o6 86 (by decide), ← hm5, qu_row, show m4 86 = M 86 from funext fun i => by rw [g0 86 i (by unfold qfly; omega), O3 86 (by decide) (by decide) (by decide)]]
  · rw [o9 87 (by decide), o7 87 i (by unfold qfly; omega), ← hm6, qu_row, o5 87 (by decide), show m4 87 = M 87 from funext fun i => by rw [g0 87 i (by unfold qfly; omega), O3 87 (by decide) (by decide) (by decide)]]
