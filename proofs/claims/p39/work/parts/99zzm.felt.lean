/-! What is felt: both answer alike. -/
def qfv (S : zS) (k x w t p l c : Int) : Int := if zm S 85 (160 * k + p) = 0 then qfwx (zm S (x + 2)) (fun q => zm S 83 (6 * k + q)) 6 ((p * t + l) * w + c).toNat else 0
theorem s_copyCell (d : Nat) (S : zS) (k b x y w t P p l c : Int) (h : 2 ≤ d) (hq : qCq S k b x y w t P) (kx : zk S x = (20, 0)) (x3 : zm S x 3 = w) (x4 : zm S x 4 = t) (y1 : zm S y 1 = x) (wr : 18 ≤ w ∧ w ≤ 40) (tr : 3 ≤ t ∧ t ≤ 25) (hp : 0 ≤ p ∧ p < P) (hl : 0 ≤ l ∧ l < t) (hc : 0 ≤ c ∧ c < w) : zD d 41 [vr y, vi p, vi l, vi c] S = some (.inl (some (vi (qfv S k x w t p l c))), S) := by
  obtain ⟨e, rfl, he⟩ := qd h
  obtain ⟨-, ⟨-, -, -, P0, P121, tw0⟩, ⟨ky, ky1, -, -, -⟩, ⟨y2, -⟩, -, -, -, e4, -⟩ := hq
  have tw1 : t * w ≤ 1000 := by
    have h1 : t * w ≤ 25 * w := Int.mul_le_mul_of_nonneg_right (by omega) (by omega)
    omega
  have lw0 : 0 ≤ l * w := Int.mul_nonneg hl.1 (by omega)
  have lw1 : l * w + w ≤ t * w := qixm (by omega) hl.2
  have asc : (p * t + l) * w + c = p * (t * w) + (l * w + c) := by rw [Int.add_mul, Int.mul_assoc]; omega
  have pw0 : 0 ≤ p * (t * w) := Int.mul_nonneg hp.1 (Int.le_of_lt tw0)
  have pw1 : p * (t * w) + t * w ≤ P * (t * w) := qixm (Int.le_of_lt tw0) hp.2
  have pw2 : P * (t * w) ≤ 121 * (t * w) := Int.mul_le_mul_of_nonneg_right P121 (Int.le_of_lt tw0)
  have pt0 : 0 ≤ p * t := Int.mul_nonneg hp.1 (by omega)
  have pt1 : p * t ≤ 121 * t := Int.mul_le_mul_of_nonneg_right (by omega) (by omega)
  have ptw : (p * t + l) * w = p * (t * w) + l * w := by rw [Int.add_mul, Int.mul_assoc]
  have ix := s_indexOf e S x w t p l c (by omega) kx x3 x4 ⟨by omega, by omega⟩ (by omega) ⟨by omega, by omega⟩ (by omega)
  obtain ⟨i, hi⟩ : ∃ i : Nat, (p * t + l) * w + c = (i : Int) := ⟨((p * t + l) * w + c).toNat, by omega⟩
  have iN : (i : Int) < P * (t * w) := by omega
  have dv : (i : Int) / (t * w) = p := by
    rw [← hi, asc]
    exact (qdmod ⟨by omega, by omega⟩).2
  have v := e4 i iN
  rw [dv] at v
  have vv : zm S (y + 1) i = qfv S k x w t p l c := by
    unfold qfv
    rw [v, hi, Int.toNat_natCast]
  rw [hi] at ix
  have i0 : 0 ≤ (i : Int) := Int.natCast_nonneg i
  obtain ⟨N, hN⟩ : ∃ N, P * (t * w) = N := ⟨_, rfl⟩
  rw [hN] at ky1 iN
  rw [← vv]
  clear e4 v vv
  simp (config := { maxSteps := 2000000 }) (disch := first | omega | (simp only [ky, y1, kx, y2, ky1, i0, iN, qb_in, qkW, qmW, qnW, true_and, and_true, or_self, true_or, or_true, and_self]; done) | (simp only [ky, y1, kx, y2, ky1, i0, iN, qb_in, qkW, qmW, qnW, true_and, and_true, or_self, true_or, or_true, and_self]; omega)) only [zD_41, b41_0, b41_10, b41_17, b41_27, b41_37, b41_38, qcall_l, qcall_r, qretn_l, qJ_s, qJ_n, qV0, qEx, ↓qif0, ↓zchk_pos, ↓reduceIte, qput, qWW, qmW, qkW, qnW, ky, y1, kx, ix, if_neg (show ¬ (i : Int) < 0 by omega), y2, ky1, if_pos iN]
theorem r_feltAt (d : Nat) (S : zS) (k b t p l c : Int) (h : 2 ≤ d) (hK : qK S) (hP : qP (zm S)) (hk : 0 ≤ k ∧ k < 20) (h82 : zm S 82 k = b) (hb : 0 ≤ b ∧ b < 4) (h52 : zm S 52 b = t) (tr : 3 ≤ t ∧ t ≤ 25) (hp : 0 ≤ p ∧ p < 121) (hl : 0 ≤ l ∧ l < t) (hc : 0 ≤ c ∧ c < 40) (hr : (p * t + l) * 40 + 40 ≤ 16000) : zD d 280 [vr 37, vi k, vi p, vi l, vi c] S = some (.inl (some (vi (if zm S 85 (160 * k + p) = 0 then zm S 89 (40 * (p * t + l) + c) else 0))), S) := by
  obtain ⟨e, rfl, he⟩ := qd h
  have ha := r_hurtAt e S k p (by omega) hk ⟨hp.1, by omega⟩
  have p69 := P_37_69 hP
  have p66 := P_37_66 hP
  have p20 := P_37_20 hP
  have p74 := P_37_74 hP
  have w0 : 0 ≤ 160 * k + p := by omega
  have w1 : 160 * k + p < 3200 := by omega
  have pt0 : 0 ≤ p * t := Int.mul_nonneg hp.1 (by omega)
  have tc : t * p = p * t := Int.mul_comm _ _
  have z1 : z32 (p * t) = p * t := q32 (by omega)
  have z2 : z32 (p * t + l) = p * t + l := q32 (by omega)
  have z3 : z32 (40 * (p * t + l)) = 40 * (p * t + l) := q32 (by omega)
  have z4 : z32 (40 * (p * t + l) + c) = 40 * (p * t + l) + c := q32 (by omega)
  have y0 : 0 ≤ 40 * (p * t + l) + c := by omega
  have y1 : 40 * (p * t + l) + c < 16000 := by omega
  by_cases c1 : zm S 85 (160 * k + p) = 0
  · rw [if_pos c1]
    simp (config := { maxSteps := 2000000 }) (disch := first | omega | (simp only [K_37 hK, K_85 hK, K_82 hK, K_52 hK, K_89 hK, p69, p66, p20, p74, h82, h52, tc, z1, z2, z3, z4, w0, w1, y0, y1, hk.1, hk.2, hb.1, hb.2, qb_in, qkW, qmW, qnW, true_and, and_true, or_self, true_or, or_true, and_self]; done) | (simp only [K_37 hK, K_85 hK, K_82 hK, K_52 hK, K_89 hK, p69, p66, p20, p74, h82, h52, tc, z1, z2, z3, z4, w0, w1, y0, y1, hk.1, hk.2, hb.1, hb.2, qb_in, qkW, qmW, qnW, true_and, and_true, or_self, true_or, or_true, and_self]; omega)) only [zD_280, b280_0, b280_9, b280_13, b280_17, b280_34, b280_43, qcall_l, qcall_r, qretn_l, qJ_s, qJ_n, qV0, qEx, ↓qif0, ↓zchk_pos, ↓reduceIte, qput, qWW, qmW, qkW, qnW, K_37 hK, K_85 hK, K_82 hK, K_52 hK, K_89 hK, p69, p66, p20, p74, ha, if_pos c1, h82, h52, tc, z1, z2, z3, z4]
  · rw [if_neg c1]
    simp (config := { maxSteps := 2000000 }) (disch := first | omega | (simp only [K_37 hK, K_85 hK, p69, w0, w1, qb_in, qkW, qmW, qnW, true_and, and_true, or_self, true_or, or_true, and_self]; done) | (simp only [K_37 hK, K_85 hK, p69, w0, w1, qb_in, qkW, qmW, qnW, true_and, and_true, or_self, true_or, or_true, and_self]; omega)) only [zD_280, b280_0, b280_9, b280_13, b280_17, b280_34, b280_43, qcall_l, qcall_r, qretn_l, qJ_s, qJ_n, qV0, qEx, ↓qif0, ↓zchk_pos, ↓reduceIte, qput, qWW, qmW, qkW, qnW, K_37 hK, K_85 hK, p69, ha, if_neg c1]
/-- what lies felt, laid anew -/
def qFtS (S : zS) (m : Int → Int → Int) (k x w t P : Int) : Prop := ∀ p l c : Int, 0 ≤ p → p < P → 0 ≤ l → l < t → 0 ≤ c → c < w → m 89 (40 * (p * t + l) + c) = qfwx (zm S (x + 2)) (fun q => zm S 83 (6 * k + q)) 6 ((p * t + l) * w + c).toNat
theorem qFc_new {S : zS} {m : Int → Int → Int} {k b x y w t P : Int} (hH : qHC S) (hf : qFx S m) (hq : qCq S k b x y w t P) (hk : 0 ≤ k ∧ k < zm S 37 65) (h75 : m 37 75 = k) (h : qFtS S m k x w t P) : qFc (qW S m) := by
  have hC := hH.1.1.2.1.2.1
  have row : ∀ z, z = 8 ∨ z = 13 ∨ (39 ≤ z ∧ z ≤ 63) ∨ (81 ≤ z ∧ z ≤ 88) → m z = zm S z := fun z hz => qFx_lo hC hf z (by omega) (fun i => by unfold qscf; omega) (fun i => by unfold qsxf; omega)
  have e65 : m 37 65 = zm S 37 65 := qFx_37 hC hf 65 (by unfold qscf; omega) (by unfold qsxf; omega)
  obtain ⟨⟨a1, a2, a3, a4, a5, a6⟩, ⟨b1, b2, -⟩, -⟩ := hq
  have hx := qFx_b (qH1_0 hH.1.1) hf ⟨b1, b2⟩
  rw [a2] at hx
  refine ⟨by show -1 ≤ m 37 75 ∧ m 37 75 < m 37 65; rw [h75, e65]; omega, fun k' b' x' w' t' P' k1 k2 k3 k4 k5 k6 k7 => ?_⟩
  have k1 : m 37 75 = k' := k1
  have k3 : m 82 k' = b' := k3
  have k4 : m 8 b' = x' := k4
  have k5 : m 51 b' = w' := k5
  have k6 : m 52 b' = t' := k6
  have k7 : m x' 9 = P' := k7
  obtain rfl : k' = k := by omega
  rw [row 82 (by omega), a1] at k3
  subst k3
  rw [row 8 (by omega), a2] at k4
  subst k4
  rw [row 51 (by omega), a4] at k5
  rw [row 52 (by omega), a5] at k6
  rw [hx.2.2.1, a6] at k7
  subst k5
  subst k6
  subst k7
  intro p l c p1 p2 l1 l2 c1 c2
  show m 89 _ = qfwx (m (x + 2)) (fun q => m 83 (6 * k' + q)) 6 _
  rw [hx.2.2.2.2, row 83 (by omega)]
  exact h p l c p1 p2 l1 l2 c1 c2
theorem qHC_ft {S : zS} {m : Int → Int → Int} {k b x y w t P : Int} (hH : qHC S) (hf : qFx S m) (hB : qHB1 (qW S m)) (hq : qCq S k b x y w t P) (hk : 0 ≤ k ∧ k < zm S 37 65) (h75 : m 37 75 = k) (h : qFtS S m k x w t P) : qHC (qW S m) := ⟨⟨qH0_x hH.1.1 hf, hB.2⟩, qYC_x hH.1.1 hH.1.2 hH.2.1 hf, qFc_new hH hf hq hk h75 h⟩
/-- the reference feels a copy of a house -/
theorem r_feelsH (d : Nat) (S : zS) (m : Int → Int → Int) (k b x y w t P : Int) (h : 12 ≤ d) (hH : qHC S) (H1 : qHB1 (qW S m)) (hk : 0 ≤ k ∧ k < zm S 37 65) (hq : qCq S k b x y w t P) (ag : ∀ z i, ¬ (qfly z i ∨ z = 102 ∨ (z = 37 ∧ i = 0)) → m z i = zm S z i) :
    ∃ m', zD d 278 [vr 37, vi k] (qW S m) = some (.inl none, qW S m') ∧ (∀ z i, ¬ (qfly z i ∨ z = 89 ∨ (z = 37 ∧ i = 75)) → m' z i = m z i) ∧ m' 37 75 = k ∧ qFtS S m' k x w t P ∧ qHB1 (qW S m') ∧ qLd (qW S m') b := by
  obtain ⟨⟨⟨⟨hK, hP, hL, hn⟩, -, ⟨p1, p2, p3, p4, p5, p6⟩, hY⟩, hBB⟩, hYC, hFc⟩ := id hH
  obtain ⟨⟨a1, a2, a3, a4, a5, a6⟩, ⟨b1, b2, b3, b4, b5, b6⟩, -, -, -, e2, -⟩ := hq
  have n65 := p4.1.2
  obtain ⟨⟨kx, kx1, kx2, x103, xn⟩, -⟩ := hY.2.1 b b1 b2
  rw [a2] at x103
  have rr : ∀ q, 0 ≤ q → q < 6 → 0 ≤ zm S 83 (6 * k + q) ∧ zm S 83 (6 * k + q) ≤ 100000 := fun q q1 q2 => (e2 q q1 (by omega)).2 q2
  exact r_feels d (qW S m) k b x w t P (zm S (x + 2)) (fun q => zm S 83 (6 * k + q)) h H1 (by show 0 ≤ b ∧ b < m 37 16; rw [ag 37 16 (by unfold qfly; omega)]; exact ⟨b1, b2⟩) ⟨hk.1, by omega⟩ (by show m 82 k = b; rw [ag 82 k (by unfold qfly; omega), a1]) (by show m 8 b = x; rw [ag 8 b (by unfold qfly; omega), a2]) (by show m 51 b = w; rw [ag 51 b (by unfold qfly; omega), a4]) (by show m 52 b = t; rw [ag 52 b (by unfold qfly; omega), a5]) (by show m x 9 = P; rw [ag x 9 (by unfold qfly; omega), a6]) (funext fun i => ag _ i (by unfold qfly; omega)) x103 (fun q q1 q2 => ⟨ag 83 _ (by unfold qfly; omega), rr q q1 q2⟩) (fun q p l c p1 p2 l1 l2 c1 c2 => by
    show m 89 _ = _
    rw [ag 89 _ (by unfold qfly; omega)]
    exact hFc.2 k b x w t P (by rw [← q]; exact (ag 37 75 (by unfold qfly; omega)).symm) hk.1 a1 a2 a4 a5 a6 p l c p1 p2 l1 l2 c1 c2)
theorem q_felt (d : Nat) (S : zS) (k p l c : Int) (h : 15 ≤ d) (hH : qHC S) :
    qUn vi qid (qGo S) S (zD d 138 [vr 3, vi k, vi p, vi l, vi c] S) (zD d 281 [vr 37, vi k, vi p, vi l, vi c]) qpsF := by
  obtain ⟨⟨⟨⟨hK, hP, hL, hn⟩, ⟨hT, hC, hR, hkk⟩, ⟨p1, p2, p3, p4, p5, p6⟩, hY⟩, hBB⟩, hYC, hFc⟩ := id hH
  by_cases c1 : 0 ≤ k ∧ k < zm S 37 65
  · obtain ⟨e, rfl, he⟩ := qd h
    obtain ⟨b, x, y, w, t, P, q⟩ := hYC.2.1 k c1.1 c1.2
    have q0 := q
    obtain ⟨⟨a1, a2, a3, a4, a5, a6⟩, ⟨b1, b2, b3, b4, b5, b6⟩, ⟨ky, ky1, ky2, y103, yn⟩, -⟩ := q
    have n65 := p4.1.2
    have k20 : k < 20 := by omega
    have bb4 : b < 4 := by have := hY.1.2; omega
    have co := s_copyOf_y e S k (by omega) hK hP p4.1 c1
    obtain ⟨-, -, -, y1, -⟩ := p4.2.1 k c1.1 c1.2
    rw [a3, a1, a2] at y1
    rw [a3] at co
    obtain ⟨⟨kx, kx1, kx2, x103, xn⟩, -, -, ⟨x3, wr⟩, ⟨x4, tr⟩, -⟩ := hY.2.1 b b1 b2
    rw [a2] at kx kx1 kx2 x103 xn x3 x4
    rw [a4] at x3 wr
    rw [a5] at x4 tr
    have cp := s_checkPlace e S x w t P p l c (by omega) kx x3 x4 a6
    by_cases c2 : (0 ≤ p ∧ p < P) ∧ (0 ≤ l ∧ l < t) ∧ (0 ≤ c ∧ c < w)
    · rw [if_pos c2] at cp
      have cc := s_copyCell e S k b x y w t P p l c (by omega) q0 kx x3 x4 y1 wr tr c2.1 c2.2.1 c2.2.2
      obtain ⟨v, hv⟩ : ∃ v, qfv S k x w t p l c = v := ⟨_, rfl⟩
      rw [hv] at cc
      refine Or.inl ⟨v, S, ?_, qKs_r S, ?_⟩
      · simp (config := { maxSteps := 2000000 }) (disch := first | omega | (simp only [K_3 hK, ky, qb_in, qkW, qmW, qnW, true_and, and_true, or_self, true_or, or_true, and_self]; done) | (simp only [K_3 hK, ky, qb_in, qkW, qmW, qnW, true_and, and_true, or_self, true_or, or_true, and_self]; omega)) only [zD_138, b138_0, b138_5, b138_19, b138_28, qcall_l, qcall_r, qretn_l, qJ_s, qJ_n, qV0, qEx, ↓qif0, ↓zchk_pos, ↓reduceIte, qput, qWW, qmW, qkW, qnW, K_3 hK, co, ky, y1, cp, cc]
      · obtain ⟨M, hM⟩ : ∃ M, qu (zm S) 102 0 (qid v) = M := ⟨_, rfl⟩
        have hq1 : qo S (qid v) = qW S M := by rw [← hM]; rfl
        rw [hq1]
        have Mo : ∀ z, z ≠ 102 → M z = zm S z := fun z hz => by rw [← hM, qu_o _ _ _ _ _ hz]
        have H1 : qHB1 (qW S M) := by
          rw [← hM]
          exact qHB1_f (qHB1_0 hH.1) (qFq_o (qFq_r S) _)
        have M37 : M 37 = zm S 37 := Mo 37 (by decide)
        have ic := r_iscopy_y e (qW S M) k (by omega) hK (by show 0 ≤ M 37 65 ∧ M 37 65 ≤ 20; rw [M37]; exact n65) (by show 0 ≤ k ∧ k < M 37 65; rw [M37]; exact c1)
        have p66 : M 37 66 = 82 := by rw [M37]; exact P_37_66 hP
        have v82 : M 82 k = b := by rw [Mo 82 (by decide), a1]
        obtain ⟨m2, r2, f2, H2, l2⟩ := r_isPlace e (qW S M) b p l c (by omega) H1 (by show 0 ≤ b ∧ b < M 37 16; rw [M37]; exact ⟨b1, b2⟩)
        rw [show zm (qW S M) 8 b = x by show M 8 b = x; rw [Mo 8 (by decide), a2], show zm (qW S M) x 9 = P by show M x 9 = P; rw [Mo x (by omega), a6], show zm (qW S M) 52 b = t by show M 52 b = t; rw [Mo 52 (by decide), a5], show zm (qW S M) 51 b = w by show M 51 b = w; rw [Mo 51 (by decide), a4], qb_p c2] at r2
        have hd := r_hold0 e S m2 (by omega) hK
        have H3 : qHB1 (qW S (qu m2 37 0 0)) := qHB_0 (S := S) H2 0
        obtain ⟨m3, hm3⟩ : ∃ m3, qu m2 37 0 0 = m3 := ⟨_, rfl⟩
        rw [hm3] at hd H3
        have f2 : qFly M m2 := f2
        have ag3 : ∀ z i, ¬ (qfly z i ∨ z = 102 ∨ (z = 37 ∧ i = 0)) → m3 z i = zm S z i := fun z i hz => by
          have e1 : m3 z i = m2 z i := by
            rw [← hm3]
            by_cases q : z = 37
            · subst q
              exact qu_i _ _ _ _ _ (by omega)
            · rw [qu_o _ _ _ _ _ q]
          rw [e1, f2 z i (fun q => hz (Or.inl q)), Mo z (by omega)]
        obtain ⟨m4, r4, ag4, e75, F4, H4, -⟩ := r_feelsH e S m3 k b x y w t P (by omega) hH H3 c1 q0 ag3
        have ag : ∀ z i, ¬ (qfly z i ∨ z = 102 ∨ (z = 37 ∧ i = 0) ∨ z = 89 ∨ (z = 37 ∧ i = 75)) → m4 z i = zm S z i := fun z i hz => by
          rw [ag4 z i (by intro q; rcases q with q | q; exact hz (Or.inl q); omega), ag3 z i (by intro q; rcases q with q | q; exact hz (Or.inl q); omega)]
        have pt0 : 0 ≤ p * t := Int.mul_nonneg c2.1.1 (by omega)
        have pt1 : p * t + t ≤ P * t := qixm (by omega) c2.1.2
        have Pt : P * t ≤ 363 := by
          obtain ⟨J, fL, fE, fA, fU, fM, P', ll, w0, -⟩ := hBB b b1 b2
          obtain ⟨Pr, x9, -⟩ := qB0_P w0 (by rw [a4]; exact wr.1) (by rw [a5]; exact tr)
          rw [a2, a6] at x9
          rw [a5] at Pr
          obtain ⟨-, -, q3, -⟩ := qmp_r tr
          have : P * t ≤ qmp t * t := Int.mul_le_mul_of_nonneg_right (by omega) (by omega)
          omega
        have fa := r_feltAt e (qW S m4) k b t p l c (by omega) hK H4.1.1.2.1 ⟨c1.1, k20⟩ (by show m4 82 k = b; rw [ag 82 k (by unfold qfly; omega), a1]) ⟨b1, bb4⟩ (by show m4 52 b = t; rw [ag 52 b (by unfold qfly; omega), a5]) tr ⟨c2.1.1, by omega⟩ c2.2.1 ⟨c2.2.2.1, by omega⟩ (by omega)
        rw [show (if zm (qW S m4) 85 (160 * k + p) = 0 then zm (qW S m4) 89 (40 * (p * t + l) + c) else 0) = v by
          rw [← hv]
          unfold qfv
          show (if m4 85 (160 * k + p) = 0 then m4 89 (40 * (p * t + l) + c) else 0) = _
          rw [ag 85 _ (by unfold qfly; omega), F4 p l c c2.1.1 c2.1.2 c2.2.1.1 c2.2.1.2 c2.2.2.1 c2.2.2.2]] at fa
        have hf : qFx S m4 := fun z i hz => ag z i fun q => hz (by
          unfold qsx qscr
          rcases q with q | q | q | q | q
          · unfold qfly at q
            unfold qscf qsxf
            omega
          · exact Or.inl (Or.inl (by unfold qscf; omega))
          · exact Or.inl (Or.inl (by unfold qscf; omega))
          · exact Or.inr (by unfold qsxf; omega)
          · exact Or.inr (by unfold qsxf; omega))
        have HC : qHC (qW S m4) := qHC_ft hH hf H4 q0 c1 e75 F4
        refine ⟨qW S m4, ?_, qKs_w S _ ?_, ?_, ?_, qGo_f hH hf HC⟩
        · simp (config := { maxSteps := 2000000 }) (disch := first | omega | (simp only [K_37 hK, K_82 hK, p66, c1.1, k20, qb_in, qkW, qmW, qnW, true_and, and_true, or_self, true_or, or_true, and_self]; done) | (simp only [K_37 hK, K_82 hK, p66, c1.1, k20, qb_in, qkW, qmW, qnW, true_and, and_true, or_self, true_or, or_true, and_self]; omega)) only [zD_281, b281_0, b281_5, b281_8, b281_22, b281_25, b281_29, b281_30, b281_38, b281_42, b281_43, b281_46, b281_49, b281_51, b281_56, b281_65, qcall_l, qcall_r, qretn_l, qJ_s, qJ_n, qV0, qEx, ↓qif0, ↓zchk_pos, ↓reduceIte, qput, qWW, qmW, qkW, qnW, K_37 hK, K_82 hK, ic, p66, v82, r2, hd, r4, fa, Int.reduceEq]
        · exact funext fun i => ag 1 i (by unfold qfly; omega)
        · show m4 37 0 = 0
          rw [ag4 37 0 (by unfold qfly; omega), ← hm3, qu_s]
        · show m4 102 0 = _
          rw [ag4 102 0 (by unfold qfly; omega), ← hm3, qu_o _ _ _ _ _ (by decide), f2 102 0 (by unfold qfly; omega), ← hM, qu_s]
    · rw [if_neg c2] at cp
      obtain ⟨m2, r2, f2, H2, -⟩ := r_isPlace e (zbump S) b p l c (by omega) (qHB1_0 hH.1) ⟨b1, b2⟩
      rw [show zm (zbump S) 8 b = x from a2, show zm (zbump S) x 9 = P from a6, show zm (zbump S) 52 b = t from a5, show zm (zbump S) 51 b = w from a4, qb_n c2] at r2
      have hKb : qK (zbump S) := hK
      have ic := r_iscopy_y e (zbump S) k (by omega) hK n65 c1
      have p66 : zm (zbump S) 37 66 = 82 := P_37_66 hP
      have v82 : zm (zbump S) 82 k = b := a1
      have hd : zD e 182 [vr 37, vi 1] (zbump (qW S m2)) = some (.inl (some (vi 0)), zbump (qW S (qu m2 37 0 1))) := r_holdn e (zbump S) m2 1 (by omega) hK (by decide)
      have r2 : zD e 272 [vr 37, vi b, vi p, vi l, vi c] (zbump S) = some (.inl (some (vi 0)), zbump (qW S m2)) := r2
      have hKb2 : qK (zbump (qW S m2)) := hK
      refine qUn_cx hH 2 ?_ (by decide) ⟨qu m2 37 0 1, ?_, qF0_t (qF0_l f2) (qF0_u m2 1), qu_s _ _ _ _, qHB_0 (S := S) H2 1⟩ fun m f H => qGo_x hH f H
      · simp (config := { maxSteps := 2000000 }) (disch := first | omega | (simp only [K_3 hK, ky, qb_in, qkW, qmW, qnW, true_and, and_true, or_self, true_or, or_true, and_self]; done) | (simp only [K_3 hK, ky, qb_in, qkW, qmW, qnW, true_and, and_true, or_self, true_or, or_true, and_self]; omega)) only [zD_138, b138_0, b138_5, b138_19, b138_28, qcall_l, qcall_r, qretn_l, qJ_s, qJ_n, qV0, qEx, ↓qif0, ↓zchk_pos, ↓reduceIte, qput, qWW, qmW, qkW, qnW, K_3 hK, co, ky, y1, cp]
      · simp (config := { maxSteps := 2000000 }) (disch := first | omega | (simp only [K_37 hKb, K_37 hKb2, K_82 hKb, p66, c1.1, k20, qb_in, qkW, qmW, qnW, true_and, and_true, or_self, true_or, or_true, and_self]; done) | (simp only [K_37 hKb, K_37 hKb2, K_82 hKb, p66, c1.1, k20, qb_in, qkW, qmW, qnW, true_and, and_true, or_self, true_or, or_true, and_self]; omega)) only [zD_281, b281_0, b281_5, b281_8, b281_22, b281_25, b281_29, b281_30, b281_38, b281_42, b281_43, b281_46, b281_49, b281_51, b281_56, b281_65, qcall_l, qcall_r, qretn_l, qJ_s, qJ_n, qV0, qEx, ↓qif0, ↓zchk_pos, ↓reduceIte, qput, qWW, qmW, qkW, qnW, K_37 hKb, K_37 hKb2, K_82 hKb, ic, p66, v82, r2, hd, Int.reduceEq]
  · exact qUn_cn hH (q_felt_n d S k p l c (by omega) hK p4.1 c1) fun m2 f H => qGo_x hH f H
