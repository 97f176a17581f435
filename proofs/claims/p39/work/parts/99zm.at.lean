/-! Questions for books: pages, cells. -/
def qHB (S : zS) : Prop := qH0 S ∧ ∀ b, 0 ≤ b → b < zm S 37 16 → qBB S b
def qHB1 (S : zS) : Prop := qH1 S ∧ ∀ b, 0 ≤ b → b < zm S 37 16 → qBB S b
theorem qHB1_0 {S : zS} (h : qHB S) : qHB1 S := ⟨qH1_0 h.1, h.2⟩
theorem qHB1_f {S : zS} {m : Int → Int → Int} (h : qHB1 S) (hf : qFq S m) : qHB1 (qW S m) := by
  obtain ⟨h1, h2⟩ := h
  obtain ⟨⟨-, -, -, hn⟩, ⟨hC, -⟩, hb⟩ := id h1
  exact ⟨qH1_x h1 (qFx_q hf), (qYB_f hC ⟨hb, h2⟩ hf hn).2⟩
theorem qHB_f {S : zS} {m : Int → Int → Int} (h : qHB S) (hf : qFq S m) : qHB (qW S m) := by
  obtain ⟨h1, h2⟩ := h
  obtain ⟨⟨-, -, -, hn⟩, ⟨-, hC, -, -⟩, -, hb⟩ := id h1
  exact ⟨qH0_x h1 (qFx_q hf), (qYB_f hC ⟨hb, h2⟩ hf hn).2⟩
theorem qFq_0 (S : zS) (v : Int) : qFq S (qu (zm S) 37 0 v) := fun z i q => by
  by_cases c : z = 37
  · subst c
    exact qu_i _ _ _ _ _ fun e => q (Or.inl (by unfold qscf; omega))
  · rw [qu_o _ _ _ _ _ c]
theorem qBB_l {S : zS} {b : Int} (h : qBB S b) (hl : qLd S b) : ∃ (J : Nat) (fL fE : Nat → List Int) (fA fU fM : Nat → Int) (P l : Int), qB0 S b (zm S 8 b) (zm S 51 b) (zm S 52 b) J fL fE fA fU fM P l ∧ qZc (zm S) (zm S 51 b) (zm S 52 b) fL fE fA fU fM J := by
  obtain ⟨J, fL, fE, fA, fU, fM, P, l, h0, h1⟩ := h
  exact ⟨J, fL, fE, fA, fU, fM, P, l, h0, (h1 hl.1).2 (by rw [hl.2]; exact h0.1.1)⟩
/-- pages, lines and room of a book -/
theorem qCB_P {m : Int → Int → Int} {x w t : Int} {s : qZs} {P l A B : Int} (h : qCB m x w t s P l) (hz : qZk w s A B) (hA : A ≤ 240) (ht : 3 ≤ t ∧ t ≤ 25) : 0 ≤ P ∧ P ≤ qmp t ∧ P ≤ 121 := by
  obtain ⟨q1, q2, -, -, q5⟩ := qmp_r ht
  rcases h.2.2.1 with q | ⟨b1, b2, b3, b4⟩
  · omega
  · have hP : P ≤ qmp t := by
      by_cases c : P ≤ qmp t
      · exact c
      · have := qixm (w := t - 1) (a := qmp t) (b := P) (by omega) (by omega)
        have e : (P - 1) * (t - 1) = P * (t - 1) - (t - 1) := by rw [Int.sub_mul, Int.one_mul]
        have := hz.1.2
        omega
    omega
theorem qB0_P {S : zS} {b x w t : Int} {J : Nat} {fL fE : Nat → List Int} {fA fU fM : Nat → Int} {P l : Int} (h : qB0 S b x w t J fL fE fA fU fM P l) (hw : 18 ≤ w) (ht : 3 ≤ t ∧ t ≤ 25) : (0 ≤ P ∧ P ≤ qmp t ∧ P ≤ 121) ∧ zm S x 9 = P ∧ qZk w (qZn w t fL fE fA J) (3 * J) (J + 1) := by
  have zk := (qZn_f (t := t) hw (qB_J h) h.1.2.2 J (Nat.le_refl _)).1
  exact ⟨qCB_P h.2.2 zk (by have := h.1.2.1; omega) ht, h.2.2.1.2.1.1, zk⟩
theorem r_cellAt (d : Nat) (S : zS) (b x w t P ll A B p l c : Int) (s : qZs) (h : 5 ≤ d) (hK : qK S) (hP : qP (zm S)) (hb : 0 ≤ b ∧ b < 4) (h51 : zm S 51 b = w) (h52 : zm S 52 b = t) (hw : 18 ≤ w ∧ w ≤ 40) (ht : 3 ≤ t ∧ t ≤ 25) (hs : qZR (zm S) s) (hc : qCB (zm S) x w t s P ll) (hz : qZk w s A B) (hA : A ≤ 240) (hB : B ≤ 100) (hp : 0 ≤ p ∧ p < P) (hl : 0 ≤ l ∧ l < t) (hcc : 0 ≤ c ∧ c < w) :
    zD d 267 [vr 37, vi b, vi p, vi l, vi c] S = some (.inl (some (vi (zm S (x + 2) ((p * t + l) * w + c)))), S) := by
  obtain ⟨e, rfl, he⟩ := qd h
  have Pb := qCB_P hc hz hA ht
  obtain ⟨b1, b2, b3, b4⟩ : 1 ≤ P ∧ 1 ≤ ll ∧ ll ≤ t - 1 ∧ s.1 = (P - 1) * (t - 1) + ll := hc.2.2.1.resolve_left fun q => by omega
  have n53 := hs.1
  have nb := hz.1.2
  have p20 := P_37_20 hP
  have p19 := P_37_19 hP
  have p52 := P_37_52 hP
  have p54 := P_37_54 hP
  have m0 : 0 ≤ p * (t - 1) := Int.mul_nonneg hp.1 (by omega)
  have m1 : p * (t - 1) ≤ (P - 1) * (t - 1) := Int.mul_le_mul_of_nonneg_right (by omega) (by omega)
  have cm : (t - 1) * p = p * (t - 1) := Int.mul_comm _ _
  have z1 : z32 (t - 1) = t - 1 := q32 (by omega)
  have z2 : z32 (p * (t - 1)) = p * (t - 1) := q32 (by omega)
  by_cases c1 : 0 < l
  · have z3 : z32 (p * (t - 1) + l) = p * (t - 1) + l := q32 (by omega)
    have z4 : z32 (p * (t - 1) + l - 1) = p * (t - 1) + l - 1 := q32 (by omega)
    by_cases c2 : p * (t - 1) + l - 1 < s.1
    · have z5 : z32 (40 * (p * (t - 1) + l - 1)) = 40 * (p * (t - 1) + l - 1) := q32 (by omega)
      have z6 : z32 (40 * (p * (t - 1) + l - 1) + c) = 40 * (p * (t - 1) + l - 1) + c := q32 (by omega)
      have v1 := hs.2.1 (p * (t - 1) + l - 1) c (by omega) c2 hcc.1 (by omega)
      have v2 := hc.2.2.2.1 p l c hp.1 (by omega) (by omega) hcc.1 hcc.2 c2
      rw [v2, ← v1]
      simp (config := { maxSteps := 2000000 }) (disch := first | omega | (simp only [K_37 hK, K_52 hK, K_71 hK, p20, p52, z5, z6, qb_in, qkW, qmW, qnW, true_and, and_true, or_self, true_or, or_true, and_self]; done) | (simp only [K_37 hK, K_52 hK, K_71 hK, p20, p52, z5, z6, qb_in, qkW, qmW, qnW, true_and, and_true, or_self, true_or, or_true, and_self]; omega)) only [zD_267, b267_0, b267_14, b267_27, b267_33, b267_49, b267_50, b267_51, b267_67, b267_76, b267_86, b267_89, b267_96, b267_99, b267_106, b267_117, b267_120, b267_121, qcall_l, qcall_r, qretn_l, qJ_s, qJ_n, qV0, qEx, ↓qif0, ↓zchk_pos, ↓reduceIte, qput, qWW, qmW, qkW, qnW, K_37 hK, K_52 hK, K_71 hK, p20, p52, h52, z1, cm, z2, z3, z4, z5, z6, if_pos c1, n53, if_pos c2]
    · have hpp : p = P - 1 := by
        by_cases q : p = P - 1
        · exact q
        · have := qixm (w := t - 1) (a := p) (b := P - 1) (by omega) (by omega)
          omega
      have v2 := hc.2.2.2.2.2 (p * t + l) c (by have := Int.mul_nonneg hp.1 (show 0 ≤ t by omega); omega) (by rw [hpp] at c2 ⊢; omega) hcc.1 hcc.2
      rw [v2]
      simp (config := { maxSteps := 2000000 }) (disch := first | omega | (simp only [K_37 hK, K_52 hK, p20, qb_in, qkW, qmW, qnW, true_and, and_true, or_self, true_or, or_true, and_self]; done) | (simp only [K_37 hK, K_52 hK, p20, qb_in, qkW, qmW, qnW, true_and, and_true, or_self, true_or, or_true, and_self]; omega)) only [zD_267, b267_0, b267_14, b267_27, b267_33, b267_49, b267_50, b267_51, b267_67, b267_76, b267_86, b267_89, b267_96, b267_99, b267_106, b267_117, b267_120, b267_121, qcall_l, qcall_r, qretn_l, qJ_s, qJ_n, qV0, qEx, ↓qif0, ↓zchk_pos, ↓reduceIte, qput, qWW, qmW, qkW, qnW, K_37 hK, K_52 hK, p20, h52, z1, cm, z2, z3, z4, if_pos c1, n53, if_neg c2]
  · obtain rfl : l = 0 := by omega
    have hn : p * (t - 1) < s.1 := by omega
    have v1 := hs.2.2 (p * (t - 1)) m0 hn
    have v2 := hc.2.2.2.2.1 p c hp.1 hp.2 hcc.1 hcc.2
    have pr := hz.2.2.2.2.2.2 (p * (t - 1)) m0 hn
    rw [Int.add_zero, v2, ← v1]
    rw [← v1] at pr
    obtain ⟨pp, hpp⟩ : ∃ pp, zm S 72 (p * (t - 1)) = pp := ⟨_, rfl⟩
    rw [hpp] at pr ⊢
    have n1 := qnu_r pp
    have n2 := qnu_r (p + 1)
    have g1 := r_digitsOf e S (p + 1) (by omega)
    have g2 := r_digitsOf e S pp (by omega)
    have z3 : z32 (p + 1) = p + 1 := q32 (by omega)
    have z4 : z32 (w - 1) = w - 1 := q32 (by omega)
    have z5 : z32 (w - 1 - qnu (p + 1)) = w - 1 - qnu (p + 1) := q32 (by omega)
    unfold qhd
    by_cases c2 : c ≤ qnu pp
    · have g3 := r_cellOfNumber e S pp c (by omega) (by omega) ⟨hcc.1, c2⟩
      rw [if_pos c2]
      simp (config := { maxSteps := 2000000 }) (disch := first | omega | (simp only [K_37 hK, K_51 hK, K_52 hK, K_72 hK, p19, p20, p54, qb_in, qkW, qmW, qnW, true_and, and_true, or_self, true_or, or_true, and_self]; done) | (simp only [K_37 hK, K_51 hK, K_52 hK, K_72 hK, p19, p20, p54, qb_in, qkW, qmW, qnW, true_and, and_true, or_self, true_or, or_true, and_self]; omega)) only [zD_267, b267_0, b267_14, b267_27, b267_33, b267_49, b267_50, b267_51, b267_67, b267_76, b267_86, b267_89, b267_96, b267_99, b267_106, b267_117, b267_120, b267_121, qcall_l, qcall_r, qretn_l, qJ_s, qJ_n, qV0, qEx, ↓qif0, ↓zchk_pos, ↓reduceIte, qput, qWW, qmW, qkW, qnW, K_37 hK, K_51 hK, K_52 hK, K_72 hK, p19, p20, p54, h51, h52, z1, cm, z2, hpp, if_neg c1, z3, g1, z4, g2, z5, if_neg (show ¬ qnu pp < c by omega), g3]
    · rw [if_neg c2]
      by_cases c3 : w - 1 - qnu (p + 1) ≤ c
      · have z6 : z32 (c - (w - 1 - qnu (p + 1))) = c - (w - 1 - qnu (p + 1)) := q32 (by omega)
        have g3 := r_cellOfNumber e S (p + 1) (c - (w - 1 - qnu (p + 1))) (by omega) (by omega) (by omega)
        rw [if_pos c3]
        simp (config := { maxSteps := 2000000 }) (disch := first | omega | (simp only [K_37 hK, K_51 hK, K_52 hK, K_72 hK, p19, p20, p54, qb_in, qkW, qmW, qnW, true_and, and_true, or_self, true_or, or_true, and_self]; done) | (simp only [K_37 hK, K_51 hK, K_52 hK, K_72 hK, p19, p20, p54, qb_in, qkW, qmW, qnW, true_and, and_true, or_self, true_or, or_true, and_self]; omega)) only [zD_267, b267_0, b267_14, b267_27, b267_33, b267_49, b267_50, b267_51, b267_67, b267_76, b267_86, b267_89, b267_96, b267_99, b267_106, b267_117, b267_120, b267_121, qcall_l, qcall_r, qretn_l, qJ_s, qJ_n, qV0, qEx, ↓qif0, ↓zchk_pos, ↓reduceIte, qput, qWW, qmW, qkW, qnW, K_37 hK, K_51 hK, K_52 hK, K_72 hK, p19, p20, p54, h51, h52, z1, cm, z2, hpp, if_neg c1, z3, g1, z4, g2, z5, if_pos (show qnu pp < c by omega), if_neg (show ¬ c < w - 1 - qnu (p + 1) by omega), z6, g3]
      · rw [if_neg c3]
        simp (config := { maxSteps := 2000000 }) (disch := first | omega | (simp only [K_37 hK, K_51 hK, K_52 hK, K_72 hK, p19, p20, p54, qb_in, qkW, qmW, qnW, true_and, and_true, or_self, true_or, or_true, and_self]; done) | (simp only [K_37 hK, K_51 hK, K_52 hK, K_72 hK, p19, p20, p54, qb_in, qkW, qmW, qnW, true_and, and_true, or_self, true_or, or_true, and_self]; omega)) only [zD_267, b267_0, b267_14, b267_27, b267_33, b267_49, b267_50, b267_51, b267_67, b267_76, b267_86, b267_89, b267_96, b267_99, b267_106, b267_117, b267_120, b267_121, qcall_l, qcall_r, qretn_l, qJ_s, qJ_n, qV0, qEx, ↓qif0, ↓zchk_pos, ↓reduceIte, qput, qWW, qmW, qkW, qnW, K_37 hK, K_51 hK, K_52 hK, K_72 hK, p19, p20, p54, h51, h52, z1, cm, z2, hpp, if_neg c1, z3, g1, z4, g2, z5, if_pos (show qnu pp < c by omega), if_pos (show c < w - 1 - qnu (p + 1) by omega)]
/-- what stays of a book, whatever of the scratch is written -/
theorem qFx_b {S : zS} {m : Int → Int → Int} (hH : qH1 S) (hf : qFx S m) {b : Int} (hb : 0 ≤ b ∧ b < zm S 37 16) : (∀ z, z = 8 ∨ (39 ≤ z ∧ z ≤ 63) → m z = zm S z) ∧ m 37 16 = zm S 37 16 ∧ m (zm S 8 b) = zm S (zm S 8 b) ∧ m (zm S 8 b + 1) = zm S (zm S 8 b + 1) ∧ m (zm S 8 b + 2) = zm S (zm S 8 b + 2) := by
  obtain ⟨-, ⟨hC, -⟩, hY⟩ := hH
  obtain ⟨⟨a1, a2, a3, a4, a5⟩, -⟩ := hY.2.1 b hb.1 hb.2
  refine ⟨fun z hz => qFx_lo hC hf z (by omega) (fun i => by unfold qscf; omega) (fun i => by unfold qsxf; omega), qFx_37 hC hf 16 (by unfold qscf; omega) (by unfold qsxf; omega), ?_, ?_, ?_⟩
  · exact funext fun i => hf _ i (qsx_h a4 (qns_k hC a4 (by rw [a1]; decide) (by rw [a1]; decide) (by rw [a1]; decide)))
  · exact funext fun i => hf _ i (qsx_h (by omega) (qns_k hC (by omega) (by rw [a2]; decide) (by rw [a2]; decide) (by rw [a2]; decide)))
  · exact funext fun i => hf _ i (qsx_h (by omega) (qns_k hC (by omega) (by rw [a3]; simp) (by rw [a3]; simp) (by rw [a3]; simp)))
theorem r_pagesOf (d : Nat) (S : zS) (b : Int) (h : 11 ≤ d) (hH : qHB1 S) (hb : 0 ≤ b ∧ b < zm S 37 16) :
    ∃ m', zD d 266 [vr 37, vi b] S = some (.inl (some (vi (zm S (zm S 8 b) 9))), qW S m') ∧ qFly (zm S) m' ∧ qHB1 (qW S m') ∧ qLd (qW S m') b := by
  obtain ⟨e, rfl, he⟩ := qd h
  obtain ⟨h0, hB⟩ := hH
  have hK := h0.1.1
  obtain ⟨m', r, fl, l, g⟩ := q_lays e S b he h0 hB hb
  have f := qFly_x fl
  have h0' := qH1_x h0 f
  obtain ⟨k1, k2, k3, -, -⟩ := qFx_b h0 f hb
  have hB' : ∀ b, 0 ≤ b → b < m' 37 16 → qBB (qW S m') b := fun b' b1 b2 => g b' b1 (by rw [k2] at b2; exact b2)
  refine ⟨m', ?_, fl, ⟨h0', hB'⟩, l⟩
  obtain ⟨J, fL, fE, fA, fU, fM, P, ll, w0, w1⟩ := qBB_l (g b hb.1 hb.2) l
  have hs := h0'.2.2.2.1 b hb.1 (by show b < m' 37 16; rw [k2]; exact hb.2)
  obtain ⟨-, -, wr, tr, -⟩ := qBs_x hs
  obtain ⟨Pr, x9, zk⟩ := qB0_P w0 wr.1 tr
  have hP' := h0'.1.2.1
  have p20 : m' 37 20 = 52 := P_37_20 hP'
  have hbn : b < 4 := by have := h0.2.2.1.2; omega
  have n53 : m' 37 53 = (qZn (m' 51 b) (m' 52 b) fL fE fA J).1 := w1.1.1
  have c3 := w0.2.2.2.2.1
  have zn := zk.1
  have J80 := w0.1.2.1
  have e9 : zm S (zm S 8 b) 9 = P := by
    have x9 : m' (m' 8 b) 9 = P := x9
    rw [k1 8 (by omega), k3] at x9
    exact x9
  generalize hN : (qZn (m' 51 b) (m' 52 b) fL fE fA J).1 = n at *
  have hN' : (qZn (zm (qW S m') 51 b) (zm (qW S m') 52 b) fL fE fA J).1 = n := hN
  rw [hN'] at c3 zn
  obtain ⟨t, ht⟩ : ∃ t, m' 52 b = t := ⟨_, rfl⟩
  have ht' : zm (qW S m') 52 b = t := ht
  rw [ht'] at c3 tr Pr
  have z1 : z32 (t - 1) = t - 1 := q32 (by omega)
  have z2 : z32 (n + (t - 1)) = n + (t - 1) := q32 (by omega)
  have z3 : z32 (n + (t - 1) - 1) = n + (t - 1) - 1 := q32 (by omega)
  have dv : Int.tdiv (n + (t - 1) - 1) (t - 1) = P := by
    rw [Int.tdiv_eq_ediv_of_nonneg (by omega)]
    rcases c3 with ⟨q1, q2, q3⟩ | ⟨q1, q2, q3, q4⟩
    · have := (qdmod (a := 0) (d := t - 1) (l := t - 2) (by omega)).2
      rw [q1, q2, show 0 + (t - 1) - 1 = 0 * (t - 1) + (t - 2) by omega, this]
    · have := (qdmod (a := P) (d := t - 1) (l := ll - 1) (by omega)).2
      have e : (P - 1) * (t - 1) = P * (t - 1) - (t - 1) := by rw [Int.sub_mul, Int.one_mul]
      rw [show n + (t - 1) - 1 = P * (t - 1) + (ll - 1) by omega, this]
  have z4 : z32 P = P := q32 (by omega)
  rw [e9]
  simp (config := { maxSteps := 2000000 }) (disch := first | omega | (simp only [K_37 hK, K_52 hK, p20, qb_in, qkW, qmW, qnW, true_and, and_true, or_self, true_or, or_true, and_self]; done) | (simp only [K_37 hK, K_52 hK, p20, qb_in, qkW, qmW, qnW, true_and, and_true, or_self, true_or, or_true, and_self]; omega)) only [zD_266, b266_0, b266_5, b266_19, qcall_l, qcall_r, qretn_l, qJ_s, qJ_n, qV0, qEx, ↓qif0, ↓zchk_pos, ↓reduceIte, qput, qWW, qmW, qkW, qnW, K_37 hK, K_52 hK, r, p20, ht, n53, z1, z2, z3, dv, z4]
theorem r_isPlace (d : Nat) (S : zS) (b p l c : Int) (h : 12 ≤ d) (hH : qHB1 S) (hb : 0 ≤ b ∧ b < zm S 37 16) :
    ∃ m', zD d 272 [vr 37, vi b, vi p, vi l, vi c] S = some (.inl (some (vi (qb ((0 ≤ p ∧ p < zm S (zm S 8 b) 9) ∧ (0 ≤ l ∧ l < zm S 52 b) ∧ (0 ≤ c ∧ c < zm S 51 b))))), qW S m') ∧ qFly (zm S) m' ∧ qHB1 (qW S m') ∧ qLd (qW S m') b := by
  obtain ⟨e, rfl, he⟩ := qd h
  obtain ⟨m', r, fl, g, ld⟩ := r_pagesOf e S b (by omega) hH hb
  have f := qFly_x fl
  have hK := hH.1.1.1
  have k1 := (qFx_b hH.1 f hb).1
  have hbn : b < 4 := by have := hH.1.2.2.1.2; omega
  have hs := hH.1.2.2.2.1 b hb.1 hb.2
  obtain ⟨-, -, wr, tr, -⟩ := qBs_x hs
  have p20 : m' 37 20 = 52 := P_37_20 g.1.1.2.1
  have p19 : m' 37 19 = 51 := P_37_19 g.1.1.2.1
  have e51 : m' 51 b = zm S 51 b := by rw [k1 51 (by omega)]
  have e52 : m' 52 b = zm S 52 b := by rw [k1 52 (by omega)]
  obtain ⟨J, fL, fE, fA, fU, fM, P, ll, w0, -⟩ := hH.2 b hb.1 hb.2
  obtain ⟨Pr, x9, -⟩ := qB0_P w0 wr.1 tr
  rw [x9] at r ⊢
  generalize zm S 51 b = w at *
  generalize zm S 52 b = t at *
  have z1 : z32 (P - 1) = P - 1 := q32 (by omega)
  have z2 : z32 (t - 1) = t - 1 := q32 (by omega)
  have z3 : z32 (w - 1) = w - 1 := q32 (by omega)
  have i1 := r_in e p 0 (P - 1) (qW S m') (by omega)
  have i2 := r_in e l 0 (t - 1) (qW S m') (by omega)
  have i3 := r_in e c 0 (w - 1) (qW S m') (by omega)
  refine ⟨m', ?_, fl, g, ld⟩
  by_cases c1 : 0 ≤ p ∧ p < P
  · rw [qb_p (show 0 ≤ p ∧ p ≤ P - 1 by omega)] at i1
    by_cases c2 : 0 ≤ l ∧ l < t
    · rw [qb_p (show 0 ≤ l ∧ l ≤ t - 1 by omega)] at i2
      by_cases c3 : 0 ≤ c ∧ c < w
      · rw [qb_p (show 0 ≤ c ∧ c ≤ w - 1 by omega)] at i3
        rw [qb_p ⟨c1, c2, c3⟩]
        simp (config := { maxSteps := 2000000 }) (disch := first | omega | (simp only [K_37 hK, K_51 hK, K_52 hK, p20, p19, qb_in, qkW, qmW, qnW, true_and, and_true, or_self, true_or, or_true, and_self]; done) | (simp only [K_37 hK, K_51 hK, K_52 hK, p20, p19, qb_in, qkW, qmW, qnW, true_and, and_true, or_self, true_or, or_true, and_self]; omega)) only [zD_272, b272_0, b272_7, b272_12, b272_15, b272_28, b272_31, b272_45, b272_48, b272_52, b272_53, qcall_l, qcall_r, qretn_l, qJ_s, qJ_n, qV0, qEx, ↓qif0, ↓zchk_pos, ↓reduceIte, qput, qWW, qmW, qkW, qnW, K_37 hK, K_51 hK, K_52 hK, r, p20, p19, e51, e52, z1, z2, z3, i1, i2, i3, Int.reduceEq]
      · rw [qb_n (show ¬ (0 ≤ c ∧ c ≤ w - 1) by omega)] at i3
        rw [qb_n fun q => c3 q.2.2]
        simp (config := { maxSteps := 2000000 }) (disch := first | omega | (simp only [K_37 hK, K_51 hK, K_52 hK, p20, p19, qb_in, qkW, qmW, qnW, true_and, and_true, or_self, true_or, or_true, and_self]; done) | (simp only [K_37 hK, K_51 hK, K_52 hK, p20, p19, qb_in, qkW, qmW, qnW, true_and, and_true, or_self, true_or, or_true, and_self]; omega)) only [zD_272, b272_0, b272_7, b272_12, b272_15, b272_28, b272_31, b272_45, b272_48, b272_52, b272_53, qcall_l, qcall_r, qretn_l, qJ_s, qJ_n, qV0, qEx, ↓qif0, ↓zchk_pos, ↓reduceIte, qput, qWW, qmW, qkW, qnW, K_37 hK, K_51 hK, K_52 hK, r, p20, p19, e51, e52, z1, z2, z3, i1, i2, i3, Int.reduceEq]
    · rw [qb_n (show ¬ (0 ≤ l ∧ l ≤ t - 1) by omega)] at i2
      rw [qb_n fun q => c2 q.2.1]
      simp (config := { maxSteps := 2000000 }) (disch := first | omega | (simp only [K_37 hK, K_52 hK, p20, qb_in, qkW, qmW, qnW, true_and, and_true, or_self, true_or, or_true, and_self]; done) | (simp only [K_37 hK, K_52 hK, p20, qb_in, qkW, qmW, qnW, true_and, and_true, or_self, true_or, or_true, and_self]; omega)) only [zD_272, b272_0, b272_7, b272_12, b272_15, b272_28, b272_31, b272_45, b272_48, b272_52, b272_53, qcall_l, qcall_r, qretn_l, qJ_s, qJ_n, qV0, qEx, ↓qif0, ↓zchk_pos, ↓reduceIte, qput, qWW, qmW, qkW, qnW, K_37 hK, K_52 hK, r, p20, e52, z1, z2, i1, i2, Int.reduceEq]
  · rw [qb_n (show ¬ (0 ≤ p ∧ p ≤ P - 1) by omega)] at i1
    rw [qb_n fun q => c1 q.1]
    simp (config := { maxSteps := 2000000 }) (disch := first | omega | (simp only [K_37 hK, qb_in, qkW, qmW, qnW, true_and, and_true, or_self, true_or, or_true, and_self]; done) | (simp only [K_37 hK, qb_in, qkW, qmW, qnW, true_and, and_true, or_self, true_or, or_true, and_self]; omega)) only [zD_272, b272_0, b272_7, b272_12, b272_15, b272_28, b272_31, b272_45, b272_48, b272_52, b272_53, qcall_l, qcall_r, qretn_l, qJ_s, qJ_n, qV0, qEx, ↓qif0, ↓zchk_pos, ↓reduceIte, qput, qWW, qmW, qkW, qnW, K_37 hK, r, z1, i1, Int.reduceEq]
theorem s_checkPlace (d : Nat) (S : zS) (x w t P p l c : Int) (h : 1 ≤ d) (kx : zk S x = (20, 0)) (x3 : zm S x 3 = w) (x4 : zm S x 4 = t) (x9 : zm S x 9 = P) :
    zD d 158 [vr x, vi p, vi l, vi c] S = if (0 ≤ p ∧ p < P) ∧ (0 ≤ l ∧ l < t) ∧ (0 ≤ c ∧ c < w) then some (.inl none, S) else some (.inr 2, zbump S) := by
  obtain ⟨e, rfl, -⟩ := qd h
  by_cases c1 : p < 0
  · rw [if_neg (by omega)]
    simp (config := { maxSteps := 2000000 }) (disch := first | omega | (simp only [kx, qb_in, qkW, qmW, qnW, true_and, and_true, or_self, true_or, or_true, and_self]; done) | (simp only [kx, qb_in, qkW, qmW, qnW, true_and, and_true, or_self, true_or, or_true, and_self]; omega)) only [zD_158, b158_0, b158_4, b158_12, b158_23, b158_27, b158_35, b158_39, b158_47, b158_58, qcall_l, qcall_r, qretn_l, qJ_s, qJ_n, qV0, qEx, ↓qif0, ↓zchk_pos, ↓reduceIte, qput, qWW, qmW, qkW, qnW, kx, x3, x4, x9, if_pos c1]
  by_cases c2 : p < P
  · by_cases c3 : l < 0
    · rw [if_neg (by omega)]
      simp (config := { maxSteps := 2000000 }) (disch := first | omega | (simp only [kx, qb_in, qkW, qmW, qnW, true_and, and_true, or_self, true_or, or_true, and_self]; done) | (simp only [kx, qb_in, qkW, qmW, qnW, true_and, and_true, or_self, true_or, or_true, and_self]; omega)) only [zD_158, b158_0, b158_4, b158_12, b158_23, b158_27, b158_35, b158_39, b158_47, b158_58, qcall_l, qcall_r, qretn_l, qJ_s, qJ_n, qV0, qEx, ↓qif0, ↓zchk_pos, ↓reduceIte, qput, qWW, qmW, qkW, qnW, kx, x3, x4, x9, if_neg c1, if_pos c2, if_pos c3]
    by_cases c4 : l < t
    · by_cases c5 : c < 0
      · rw [if_neg (by omega)]
        simp (config := { maxSteps := 2000000 }) (disch := first | omega | (simp only [kx, qb_in, qkW, qmW, qnW, true_and, and_true, or_self, true_or, or_true, and_self]; done) | (simp only [kx, qb_in, qkW, qmW, qnW, true_and, and_true, or_self, true_or, or_true, and_self]; omega)) only [zD_158, b158_0, b158_4, b158_12, b158_23, b158_27, b158_35, b158_39, b158_47, b158_58, qcall_l, qcall_r, qretn_l, qJ_s, qJ_n, qV0, qEx, ↓qif0, ↓zchk_pos, ↓reduceIte, qput, qWW, qmW, qkW, qnW, kx, x3, x4, x9, if_neg c1, if_pos c2, if_neg c3, if_pos c4, if_pos c5]
      by_cases c6 : c < w
      · rw [if_pos (by omega)]
        simp (config := { maxSteps := 2000000 }) (disch := first | omega | (simp only [kx, qb_in, qkW, qmW, qnW, true_and, and_true, or_self, true_or, or_true, and_self]; done) | (simp only [kx, qb_in, qkW, qmW, qnW, true_and, and_true, or_self, true_or, or_true, and_self]; omega)) only [zD_158, b158_0, b158_4, b158_12, b158_23, b158_27, b158_35, b158_39, b158_47, b158_58, qcall_l, qcall_r, qretn_l, qJ_s, qJ_n, qV0, qEx, ↓qif0, ↓zchk_pos, ↓reduceIte, qput, qWW, qmW, qkW, qnW, kx, x3, x4, x9, if_neg c1, if_pos c2, if_neg c3, if_pos c4, if_neg c5, if_pos c6]
      · rw [if_neg (by omega)]
        simp (config := { maxSteps := 2000000 }) (disch := first | omega | (simp only [kx, qb_in, qkW, qmW, qnW, true_and, and_true, or_self, true_or, or_true, and_self]; done) | (simp only [kx, qb_in, qkW, qmW, qnW, true_and, and_true, or_self, true_or, or_true, and_self]; omega)) only [zD_158, b158_0, b158_4, b158_12, b158_23, b158_27, b158_35, b158_39, b158_47, b158_58, qcall_l, qcall_r, qretn_l, qJ_s, qJ_n, qV0, qEx, ↓qif0, ↓zchk_pos, ↓reduceIte, qput, qWW, qmW, qkW, qnW, kx, x3, x4, x9, if_neg c1, if_pos c2, if_neg c3, if_pos c4, if_neg c5, if_neg c6]
    · rw [if_neg (by omega)]
      simp (config := { maxSteps := 2000000 }) (disch := first | omega | (simp only [kx, qb_in, qkW, qmW, qnW, true_and, and_true, or_self, true_or, or_true, and_self]; done) | (simp only [kx, qb_in, qkW, qmW, qnW, true_and, and_true, or_self, true_or, or_true, and_self]; omega)) only [zD_158, b158_0, b158_4, b158_12, b158_23, b158_27, b158_35, b158_39, b158_47, b158_58, qcall_l, qcall_r, qretn_l, qJ_s, qJ_n, qV0, qEx, ↓qif0, ↓zchk_pos, ↓reduceIte, qput, qWW, qmW, qkW, qnW, kx, x3, x4, x9, if_neg c1, if_pos c2, if_neg c3, if_neg c4]
  · rw [if_neg (by omega)]
    simp (config := { maxSteps := 2000000 }) (disch := first | omega | (simp only [kx, qb_in, qkW, qmW, qnW, true_and, and_true, or_self, true_or, or_true, and_self]; done) | (simp only [kx, qb_in, qkW, qmW, qnW, true_and, and_true, or_self, true_or, or_true, and_self]; omega)) only [zD_158, b158_0, b158_4, b158_12, b158_23, b158_27, b158_35, b158_39, b158_47, b158_58, qcall_l, qcall_r, qretn_l, qJ_s, qJ_n, qV0, qEx, ↓qif0, ↓zchk_pos, ↓reduceIte, qput, qWW, qmW, qkW, qnW, kx, x3, x4, x9, if_neg c1, if_neg c2]
theorem s_cellAtIndex (d : Nat) (S : zS) (x n i : Int) (h : 1 ≤ d) (kx : zk S x = (20, 0)) (x8 : zm S x 8 = x + 2) (kc : zk S (x + 2) = (3, n)) (hi : 0 ≤ i ∧ i < n) : zD d 5 [vr x, vi i] S = some (.inl (some (vi (zm S (x + 2) i))), S) := by
  obtain ⟨e, rfl, -⟩ := qd h
  simp (config := { maxSteps := 2000000 }) (disch := first | omega | (simp only [kx, x8, kc, qb_in, qkW, qmW, qnW, true_and, and_true, or_self, true_or, or_true, and_self]; done) | (simp only [kx, x8, kc, qb_in, qkW, qmW, qnW, true_and, and_true, or_self, true_or, or_true, and_self]; omega)) only [zD_5, b5_0, b5_4, b5_13, b5_22, b5_23, qcall_l, qcall_r, qretn_l, qJ_s, qJ_n, qV0, qEx, ↓qif0, ↓zchk_pos, ↓reduceIte, qput, qWW, qmW, qkW, qnW, kx, x8, kc, if_neg (show ¬ i < 0 by omega), if_pos hi.2]
/-- scratch alone, and nothing of what is felt -/
def qFzz (S : zS) (m' : Int → Int → Int) : Prop := qFx S m' ∧ m' 89 = zm S 89 ∧ m' 37 75 = zm S 37 75
theorem qFzz_q {S : zS} {m' : Int → Int → Int} (hC : qRC S) (h : qFq S m') : qFzz S m' := ⟨qFx_q h, qFq_x hC h (by decide) fun j => by unfold qscf; omega, qFq_37 hC h 75 (by unfold qscf; omega)⟩
theorem qFzz_t {S : zS} {m m' : Int → Int → Int} (hC : qRC S) (h : qFzz S m) (g : qFzz (qW S m) m') : qFzz S m' := ⟨qFx_t hC h.1 g.1, g.2.1.trans h.2.1, g.2.2.trans h.2.2⟩
/-- both answer: the class writes nothing, the reference scratch alone -/
def qF0 (m m' : Int → Int → Int) : Prop := ∀ z i, ¬ (qfly z i ∨ (z = 37 ∧ i = 0)) → m' z i = m z i
theorem qF0_l {m m' : Int → Int → Int} (h : qFly m m') : qF0 m m' := fun z i q => h z i fun p => q (Or.inl p)
theorem qF0_t {m m1 m2 : Int → Int → Int} (h : qF0 m m1) (g : qF0 m1 m2) : qF0 m m2 := fun z i q => (g z i q).trans (h z i q)
theorem qF0_u (m : Int → Int → Int) (v : Int) : qF0 m (qu m 37 0 v) := fun z i q => by
  by_cases c : z = 37
  · subst c
    exact qu_i _ _ _ _ _ fun e => q (Or.inr ⟨rfl, e⟩)
  · rw [qu_o _ _ _ _ _ c]
theorem qF0_x {S : zS} {m' : Int → Int → Int} (h : qF0 (zm S) m') : qFx S m' := fun z i q => h z i fun p => q (by
  by_cases c : qscf z i
  · exact Or.inl (Or.inl c)
  · refine Or.inr ?_
    unfold qscf at c
    unfold qfly at p
    unfold qsxf
    omega)
theorem qF0_z {S : zS} {m' : Int → Int → Int} (h : qF0 (zm S) m') : qFzz S m' := ⟨qF0_x h, funext fun i => h 89 i (by unfold qfly; omega), h 37 75 (by unfold qfly; omega)⟩
theorem qHB_q {S : zS} {m m' : Int → Int → Int} (H : qHB1 (qW S m)) (f : qFq (qW S m) m') : qHB1 (qW S m') := qHB1_f (S := qW S m) H f
theorem qHB_0 {S : zS} {m : Int → Int → Int} (H : qHB1 (qW S m)) (v : Int) : qHB1 (qW S (qu m 37 0 v)) := qHB_q H (qFq_0 (qW S m) v)
theorem qUn_bk {S : zS} {R : zR} {F : zS → zR} {ps : Nat → Int} {Q : zS → Prop} (hH : qHB S) (v : Int) (hR : R = some (.inl (some (vi v)), S)) (hF : ∀ m1, (∀ z, z ≠ 102 → m1 z = zm S z) → qHB1 (qW S m1) → ∃ m3, F (qW S m1) = some (.inl (some (vi v)), qW S m3) ∧ qF0 m1 m3 ∧ m3 37 0 = 0 ∧ qHB1 (qW S m3)) (hQ : ∀ m2, qFzz S m2 → qHB (qW S m2) → Q (qW S m2)) : qUn vi qid Q S R F ps := by
  have hC := hH.1.2.1.2.1
  refine Or.inl ⟨v, S, hR, ⟨rfl, fun _ _ => rfl⟩, ?_⟩
  obtain ⟨m1, hm1⟩ : ∃ m1, qu (zm S) 102 0 (qid v) = m1 := ⟨_, rfl⟩
  have hq1 : qo S (qid v) = qW S m1 := by rw [← hm1]; rfl
  have f1 : qFq S m1 := by rw [← hm1]; exact qFq_o (qFq_r S) _
  obtain ⟨m3, r, f3, h3, H3⟩ := hF m1 (fun z hz => by rw [← hm1, qu_o _ _ _ _ _ hz]) (qHB1_f (qHB1_0 hH) f1)
  have f13 : qFzz S m3 := qFzz_t hC (qFzz_q hC f1) (qF0_z (S := qW S m1) f3)
  refine ⟨qW S m3, by rw [hq1]; exact r, ⟨qFx_lo hC f13.1 1 (by decide) (fun i => by unfold qscf; omega) (fun i => by unfold qsxf; omega), fun _ _ => rfl⟩, h3, ?_, hQ m3 f13 ⟨qH0_x hH.1 f13.1, H3.2⟩⟩
  show m3 102 0 = _
  rw [f3 102 0 (by unfold qfly; omega), ← hm1, qu_s]
theorem qUn_bx {S : zS} {R : zR} {F : zS → zR} {ps : Nat → Int} {Q : zS → Prop} (hH : qHB S) (x : Nat) (hR : R = some (.inr x, zbump S)) (hx : ps x ≠ 0) (hF : ∃ m3, F (zbump S) = some (.inl (some (vi 0)), zbump (qW S m3)) ∧ qF0 (zm S) m3 ∧ m3 37 0 = ps x ∧ qHB1 (qW S m3)) (hQ : ∀ m2, qFzz S m2 → qHB (qW S m2) → Q (zbump (qW S m2))) : qUn vi qid Q S R F ps := by
  have hC := hH.1.2.1.2.1
  obtain ⟨m3, r, f3, h3, H3⟩ := hF
  have f := qF0_z f3
  exact Or.inr ⟨x, 0, zbump S, zbump (qW S m3), hR, ⟨rfl, fun _ _ => rfl⟩, r, ⟨qFx_lo hC f.1 1 (by decide) (fun i => by unfold qscf; omega) (fun i => by unfold qsxf; omega), fun _ _ => rfl⟩, h3, hx, hQ m3 f ⟨qH0_x hH.1 f.1, H3.2⟩⟩
/-- a book valid before is so behind what laying writes -/
theorem qF0_b {S : zS} {m1 m : Int → Int → Int} (h1 : ∀ z, z ≠ 102 → m1 z = zm S z) (hf : qF0 m1 m) : (∀ z, z ≤ 63 → z ≠ 37 → m z = zm S z) ∧ (∀ z, 90 ≤ z → z ≠ 102 → m z = zm S z) ∧ (∀ z, 81 ≤ z → z ≤ 88 → m z = zm S z) ∧ ∀ i, ¬ (qfly 37 i ∨ i = 0) → m 37 i = zm S 37 i := by
  refine ⟨fun z hz h => ?_, fun z hz h => ?_, fun z hz h => ?_, fun i hi => ?_⟩
  · rw [← h1 z (by omega)]
    exact funext fun i => hf z i (by unfold qfly; omega)
  · rw [← h1 z h]
    exact funext fun i => hf z i (by unfold qfly; omega)
  · rw [← h1 z (by omega)]
    exact funext fun i => hf z i (by unfold qfly; omega)
  · rw [hf 37 i (fun q => hi (by rcases q with q | q; exact Or.inl q; exact Or.inr q.2)), h1 37 (by decide)]
theorem r_hold0 (e : Nat) (S : zS) (m : Int → Int → Int) (h : 1 ≤ e) (hK : qK S) : zD e 182 [vr 37, vi 0] (qW S m) = some (.inl (some (vi 1)), qW S (qu m 37 0 0)) := by
  have hd := r_holds e (qW S m) 0 h hK
  rw [qb_p rfl] at hd
  exact hd
theorem r_holdn (e : Nat) (S : zS) (m : Int → Int → Int) (p : Int) (h : 1 ≤ e) (hK : qK S) (hp : p ≠ 0) : zD e 182 [vr 37, vi p] (qW S m) = some (.inl (some (vi 0)), qW S (qu m 37 0 p)) := by
  have hd := r_holds e (qW S m) p h hK
  rw [qb_n hp] at hd
  exact hd
theorem s_cellAt (d : Nat) (S : zS) (x w t p l c : Int) (h : 2 ≤ d) (kx : zk S x = (20, 0)) (kc : zk S (x + 2) = (3, qbl w t)) (x3 : zm S x 3 = w) (x4 : zm S x 4 = t) (x8 : zm S x 8 = x + 2) (wr : 18 ≤ w ∧ w ≤ 40) (tr : 3 ≤ t ∧ t ≤ 25) (hp : 0 ≤ p ∧ p < qmp t) (hl : 0 ≤ l ∧ l < t) (hc : 0 ≤ c ∧ c < w) : zD d 4 [vr x, vi p, vi l, vi c] S = some (.inl (some (vi (zm S (x + 2) ((p * t + l) * w + c)))), S) := by
  obtain ⟨e, rfl, he⟩ := qd h
  obtain ⟨⟨q1, q2⟩, ⟨q3, q4⟩⟩ := qrow (P := p + 1) (l := l) (c := c) wr tr (by omega) hl hc
  rw [show p + 1 - 1 = p by omega] at q1 q2 q3 q4
  have b2 := (qbl_r tr wr).2
  have i1 := s_indexOf e S x w t p l c (by omega) kx x3 x4 ⟨q1, by omega⟩ (by omega) ⟨q3, by omega⟩ (by omega)
  have i2 := s_cellAtIndex e S x _ ((p * t + l) * w + c) (by omega) kx x8 kc (by omega)
  simp (config := { maxSteps := 2000000 }) (disch := first | omega | (simp only [kx, qb_in, qkW, qmW, qnW, true_and, and_true, or_self, true_or, or_true, and_self]; done) | (simp only [kx, qb_in, qkW, qmW, qnW, true_and, and_true, or_self, true_or, or_true, and_self]; omega)) only [zD_4, b4_0, b4_8, b4_11, qcall_l, qcall_r, qretn_l, qJ_s, qJ_n, qV0, qEx, ↓qif0, ↓zchk_pos, ↓reduceIte, qput, qWW, qmW, qkW, qnW, kx, i1, i2]
theorem q_at (d : Nat) (S : zS) (b p l c : Int) (Q : zS → Prop) (h : 15 ≤ d) (hH : qHB S) (hQ : ∀ m2, qFzz S m2 → qHB (qW S m2) → Q (qW S m2)) (hQx : ∀ m2, qFzz S m2 → qHB (qW S m2) → Q (zbump (qW S m2))) :
    qUn vi qid Q S (zD d 135 [vr 3, vi b, vi p, vi l, vi c] S) (zD d 273 [vr 37, vi b, vi p, vi l, vi c]) qpsF := by
  obtain ⟨⟨⟨hK, hP, hL, hn⟩, ⟨hT, hC, hR, hk⟩, hPo, hY⟩, hBB⟩ := id hH
  by_cases c1 : 0 ≤ b ∧ b < zm S 37 16
  · obtain ⟨e, rfl, he⟩ := qd h
    have hs := hY.2.1 b c1.1 c1.2
    obtain ⟨⟨a1, a2, a3, a4, a5⟩, -, -, ⟨x3, wr⟩, ⟨x4, tr⟩, -, -, -, x8, -⟩ := id hs
    have bo := s_bookOf_y e S b (by omega) hK hP hY.1 c1
    obtain ⟨J, fL, fE, fA, fU, fM, P, ll, w0, -⟩ := hBB b c1.1 c1.2
    obtain ⟨Pr, x9, -⟩ := qB0_P w0 wr.1 tr
    have hbn : b < 4 := by have := hY.1.2; omega
    have cp := s_checkPlace e S (zm S 8 b) _ _ _ p l c (by omega) a1 x3 x4 x9
    by_cases c2 : (0 ≤ p ∧ p < P) ∧ (0 ≤ l ∧ l < zm S 52 b) ∧ (0 ≤ c ∧ c < zm S 51 b)
    · rw [if_pos c2] at cp
      have cc := s_cellAt e S (zm S 8 b) _ _ p l c (by omega) a1 a3 x3 x4 x8 wr tr (by omega) c2.2.1 c2.2.2
      obtain ⟨v, hv⟩ : ∃ v, zm S (zm S 8 b + 2) ((p * zm S 52 b + l) * zm S 51 b + c) = v := ⟨_, rfl⟩
      rw [hv] at cc
      refine qUn_bk hH v ?_ (fun m1 k1 H1 => ?_) hQ
      · simp (config := { maxSteps := 2000000 }) (disch := first | omega | (simp only [K_3 hK, a1, qb_in, qkW, qmW, qnW, true_and, and_true, or_self, true_or, or_true, and_self]; done) | (simp only [K_3 hK, a1, qb_in, qkW, qmW, qnW, true_and, and_true, or_self, true_or, or_true, and_self]; omega)) only [zD_135, b135_0, b135_5, b135_16, b135_25, qcall_l, qcall_r, qretn_l, qJ_s, qJ_n, qV0, qEx, ↓qif0, ↓zchk_pos, ↓reduceIte, qput, qWW, qmW, qkW, qnW, K_3 hK, bo, cp, a1, cc]
      · have k37 : m1 37 = zm S 37 := k1 37 (by decide)
        have hb1 : 0 ≤ b ∧ b < m1 37 16 := by rw [k37]; exact c1
        have ib := r_isbook_y e (qW S m1) b (by omega) hK H1.1.2.2.1.2 hb1
        obtain ⟨m2, r2, f2, H2, l2⟩ := r_isPlace e (qW S m1) b p l c (by omega) H1 hb1
        have e1 : ∀ z, z ≠ 102 → zm (qW S m1) z = zm S z := k1
        rw [e1 8 (by decide), e1 (zm S 8 b) (by omega), e1 51 (by decide), e1 52 (by decide), x9, qb_p c2] at r2
        have r2 : zD e 272 [vr 37, vi b, vi p, vi l, vi c] (qW S m1) = some (.inl (some (vi 1)), qW S m2) := r2
        have hd := r_hold0 e S m2 (by omega) hK
        have H3 := qHB_0 H2 0
        obtain ⟨m3, hm3⟩ : ∃ m3, qu m2 37 0 0 = m3 := ⟨_, rfl⟩
        have f3 : qF0 m1 m3 := by rw [← hm3]; exact qF0_t (qF0_l f2) (qF0_u m2 0)
        have n0 : m3 37 0 = 0 := by rw [← hm3, qu_s]
        have l3 : qLd (qW S m3) b := by
          obtain ⟨y1, y2⟩ := l2
          refine ⟨?_, ?_⟩
          · show m3 37 50 = b
            rw [← hm3, qu_i _ _ _ _ _ (by decide)]
            exact y1
          · show m3 37 51 = m3 54 b
            rw [← hm3, qu_i _ _ _ _ _ (by decide), qu_o _ _ _ _ _ (by decide)]
            exact y2
        have H3 : qHB1 (qW S (qu m2 37 0 0)) := H3
        rw [hm3] at hd H3
        obtain ⟨g1, g2, -, g4⟩ := qF0_b k1 f3
        have n16 : m3 37 16 = zm S 37 16 := g4 16 (by unfold qfly; omega)
        obtain ⟨J', gL, gE, gA, gU, gM, P', ll', v0, v1⟩ := qBB_l (H3.2 b c1.1 (by show b < m3 37 16; rw [n16]; exact c1.2)) l3
        have q8 : zm (qW S m3) 8 = zm S 8 := g1 8 (by decide) (by decide)
        have q51 : zm (qW S m3) 51 = zm S 51 := g1 51 (by decide) (by decide)
        have q52 : zm (qW S m3) 52 = zm S 52 := g1 52 (by decide) (by decide)
        have qx : zm (qW S m3) (zm S 8 b) = zm S (zm S 8 b) := g2 _ (by omega) (by omega)
        have qc : zm (qW S m3) (zm S 8 b + 2) = zm S (zm S 8 b + 2) := g2 _ (by omega) (by omega)
        rw [q8] at v0
        rw [q51, q52] at v0 v1
        obtain ⟨Pr', x9', zk'⟩ := qB0_P v0 wr.1 tr
        have hPP : P' = P := by rw [← x9', ← x9, qx]
        have ca := r_cellAt e (qW S m3) b (zm S 8 b) (zm S 51 b) (zm S 52 b) P' ll' _ _ p l c _ (by omega) hK H3.1.1.2.1 ⟨c1.1, hbn⟩ (by rw [q51]) (by rw [q52]) wr tr v1.1 v0.2.2 zk' (by have := v0.1.2.1; omega) (by have := v0.1.2.1; omega) (by rw [hPP]; exact c2.1) c2.2.1 c2.2.2
        rw [qc, hv] at ca
        refine ⟨m3, ?_, f3, n0, H3⟩
        simp (config := { maxSteps := 2000000 }) (disch := first | omega | (simp only [K_37 hK, qb_in, qkW, qmW, qnW, true_and, and_true, or_self, true_or, or_true, and_self]; done) | (simp only [K_37 hK, qb_in, qkW, qmW, qnW, true_and, and_true, or_self, true_or, or_true, and_self]; omega)) only [zD_273, b273_0, b273_6, b273_9, b273_18, b273_21, b273_25, b273_26, b273_29, b273_32, b273_34, b273_43, qcall_l, qcall_r, qretn_l, qJ_s, qJ_n, qV0, qEx, ↓qif0, ↓zchk_pos, ↓reduceIte, qput, qWW, qmW, qkW, qnW, K_37 hK, ib, r2, hd, ca, Int.reduceEq]
    · rw [if_neg c2] at cp
      refine qUn_bx hH 2 ?_ (by decide) ?_ hQx
      · simp (config := { maxSteps := 2000000 }) (disch := first | omega | (simp only [K_3 hK, qb_in, qkW, qmW, qnW, true_and, and_true, or_self, true_or, or_true, and_self]; done) | (simp only [K_3 hK, qb_in, qkW, qmW, qnW, true_and, and_true, or_self, true_or, or_true, and_self]; omega)) only [zD_135, b135_0, b135_5, b135_16, b135_25, qcall_l, qcall_r, qretn_l, qJ_s, qJ_n, qV0, qEx, ↓qif0, ↓zchk_pos, ↓reduceIte, qput, qWW, qmW, qkW, qnW, K_3 hK, bo, cp]
      · have hKb : qK (zbump S) := hK
        have hHb : qHB1 (zbump S) := qHB1_0 hH
        have ib := r_isbook_y e (zbump S) b (by omega) hK hY.1.2 c1
        obtain ⟨m2, r2, f2, H2, -⟩ := r_isPlace e (zbump S) b p l c (by omega) hHb c1
        rw [qb_n (show ¬ ((0 ≤ p ∧ p < zm (zbump S) (zm (zbump S) 8 b) 9) ∧ (0 ≤ l ∧ l < zm (zbump S) 52 b) ∧ (0 ≤ c ∧ c < zm (zbump S) 51 b)) from fun q => c2 ⟨⟨q.1.1, by have := q.1.2; rw [← x9]; exact this⟩, q.2⟩)] at r2
        have hd := r_holdn e (zbump S) m2 1 (by omega) hK (by decide)
        refine ⟨qu m2 37 0 1, ?_, qF0_t (qF0_l f2) (qF0_u m2 1), qu_s _ _ _ _, qHB_0 (S := S) H2 1⟩
        simp (config := { maxSteps := 2000000 }) (disch := first | omega | (simp only [K_37 hKb, qb_in, qkW, qmW, qnW, true_and, and_true, or_self, true_or, or_true, and_self]; done) | (simp only [K_37 hKb, qb_in, qkW, qmW, qnW, true_and, and_true, or_self, true_or, or_true, and_self]; omega)) only [zD_273, b273_0, b273_6, b273_9, b273_18, b273_21, b273_25, b273_26, b273_29, b273_32, b273_34, b273_43, qcall_l, qcall_r, qretn_l, qJ_s, qJ_n, qV0, qEx, ↓qif0, ↓zchk_pos, ↓reduceIte, qput, qWW, qmW, qkW, qnW, K_37 hKb, ib, r2, hd, Int.reduceEq]
        rfl
  · exact qUn_no (q_at_n d S b p l c (by omega) hK hY.1 c1) fun v => hQx _ (qFzz_q hC (qFq_0 S v)) (qHB_f hH (qFq_0 S v))
