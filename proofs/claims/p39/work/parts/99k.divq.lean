/-! A divided word: both answer alike. -/
theorem qFq_dv {T : zS} {m2 : Int → Int → Int} (h1 : ∀ x, x ≠ 37 → x ≠ 64 → m2 x = zm T x) (h2 : ∀ j, j ≠ 0 → j ≠ 33 → j ≠ 36 → j ≠ 38 → m2 37 j = zm T 37 j) : qFq T m2 := fun x j q => by
  have q : ¬ qscf x j := fun z => q (Or.inl z)
  unfold qscf at q
  by_cases c : x = 37
  · subst c
    exact h2 j (by omega) (by omega) (by omega) (by omega)
  · rw [h1 x c (by omega)]
theorem q_division (d : Nat) (S : zS) (h : 9 ≤ d) (hK : qK S) (hP : qP (zm S)) (hT : qRT S) (hC : qRC S) (hR : qRD S) (hB : qBh S) (hn : 103 ≤ (zn S : Int)) :
    qAskN (fun S2 => (qRT S2 ∧ qRC S2 ∧ qRD S2 ∧ qBh S2) ∧ qGw S S2 3 3 18 fun x j => x = 102 ∨ x = 3 ∧ j = 4 ∨ x = 4 ∧ j = 1 ∨ x = 7 ∨ 46 ≤ x ∧ x ≤ 48 ∨ x = 64 ∨ x = 37 ∧ (j = 0 ∨ j = 2 ∨ j = 12 ∨ j = 33 ∨ j = 36 ∨ j = 38)) (fun S2 => ∃ T m2, S2 = zbump (qW T m2) ∧ (T = S ∨ qGw S T 3 3 18 fun _ _ => False) ∧ qFq T m2) S (zD d 120 [vr 3] S) (zD d 213 [vr 37]) qpsA := by
  obtain ⟨e, rfl, he⟩ := qd h
  have hn2 : 0 ≤ zm S 37 2 := hT.2.1.1
  by_cases c : qdok (zm S 38) (zm S 37 2)
  · obtain ⟨T, r, n1, z1, w1, k1, lo, ⟨v0, v1, v2, v3⟩, v4, v5⟩ := s_divMade e S (zn S) (zm S 37 2) (zm S 38) (by omega) hK hP hT rfl hn rfl rfl c
    generalize hN : (zn S : Int) = N at *
    have lk : ∀ x, x < N → zk T x = zk S x := fun x hx => by rw [k1, if_neg (by omega), if_neg (by omega), if_neg (by omega)]
    obtain ⟨g, hKT, hPT, hTT, hCT, hRT, hBT⟩ := qgrown hN hn (by omega) lk lo hK hP hT hC hR hB
    have kN : zk T N = (25, 0) := by rw [k1, if_neg (by omega), if_neg (by omega), if_pos rfl]
    have kL : zk T (N + 1) = (0, 10) := by rw [k1, if_neg (by omega), if_pos rfl]
    have kE : zk T (N + 2) = (0, 4) := by rw [k1, if_pos rfl]
    have s37 : zm T 37 = zm S 37 := lo 37 (by omega)
    have s38 : zm T 38 = zm S 38 := lo 38 (by omega)
    generalize hnn : zm S 37 2 = n at *
    generalize htt : zm S 38 = t at *
    have dv := qdv t n hn2 c
    have hcw := c.1
    generalize hW : qdW t n.toNat = W at *
    have hWL : (W.length : Int) = qdvl t n.toNat := by rw [← hW]; exact qdW_l t n.toNat
    have hl10 : qdvl t n.toNat ≤ 10 := c.2.2
    have hA : qA (zm T) (N + 1) W := qA_f fun i i1 i2 => by rw [v4 i i1 (by omega), ← hW, qdW_n t n.toNat i ⟨i1, by omega⟩]
    have hW10 : 0 < W.length ∧ W.length ≤ 10 := by have := dv.2.2.2.2; omega
    by_cases b : zm T 37 12 = 12 ∨ ¬ qPw (zm T) W 0 = 0 ∨ qhwf (zm T) (-1) (zm T 37 16).toNat = 1
    · have cl := s_divBad e T N (qdvl t n.toNat) W (by omega) hKT hPT hRT hBT kN kL v0 v1 hA hW10 hWL b
      obtain ⟨m2, r2, f0, f1, f2⟩ := r_divBad e (zbump T) 2 n t (by omega) hKT hPT (qRT_r hTT) hRT.2.1 hBT.2.1 (by show zm T 37 2 = n; rw [s37]; exact hnn) s38 (Or.inr ⟨c, by rw [hW]; exact b, rfl⟩)
      refine Or.inr ⟨1, 0, zbump T, zbump (qW T m2), by rw [r]; exact cl, ⟨lo 1 (by omega), fun x hx => lk x (by omega)⟩, r2, f0, by decide, T, m2, rfl, Or.inr ⟨by omega, z1, w1, fun x hx => lk x (by omega), fun x j hx _ => by rw [lo x (by omega)]⟩, qFq_dv f1 f2⟩
    · have b1 : zm T 37 12 ≠ 12 := fun z => b (Or.inl z)
      have b2 : qPw (zm T) W 0 = 0 := Classical.byContradiction fun z => b (Or.inr (Or.inl z))
      have b3 : qhwf (zm T) (-1) (zm T 37 16).toNat = 0 := (qhwf_r _ _ _).resolve_right fun z => b (Or.inr (Or.inr z))
      have hK12 := hRT.2.1
      obtain ⟨K, hKK⟩ : ∃ K, zm T 37 12 = K := ⟨_, rfl⟩
      rw [hKK] at b1 hK12
      have cl := s_divGood e T N (qdvl t n.toNat) K W (by omega) hKT hPT hRT hBT hn kN kL v0 v1 hA hW10 hWL hKK (by omega) b2 b3
      obtain ⟨M, hM⟩ : ∃ M, qu (qu (qu (zm T) 7 K N) 3 4 (K + 1)) 4 1 0 = M := ⟨_, rfl⟩
      rw [hM] at cl
      refine Or.inl ⟨(qdvl t n.toNat), qW T M, by rw [r]; exact cl, ⟨by show M 1 = _; rw [← hM, qu_o _ _ _ _ _ (by decide), qu_o _ _ _ _ _ (by decide), qu_o _ _ _ _ _ (by decide), lo 1 (by omega)], fun x hx => by rw [qkW]; exact lk x (by omega)⟩, fun o => ?_⟩
      obtain ⟨M9, hM9⟩ : ∃ M9, qu M 102 0 o = M9 := ⟨_, rfl⟩
      have hq9 : qo (qW T M) o = qW T M9 := by rw [← hM9]; rfl
      rw [hq9]
      have g9 : ∀ x, x ≠ 102 → M9 x = M x := fun x hx => by rw [← hM9, qu_o _ _ _ _ _ hx]
      have M7 : ∀ i, M9 7 i = if i = K then N else zm T 7 i := fun i => by
        rw [g9 7 (by decide), ← hM, qu_o _ _ _ _ _ (by decide), qu_o _ _ _ _ _ (by decide), qu_row]
      have M34 : M9 3 4 = K + 1 := by rw [g9 3 (by decide), ← hM, qu_o _ _ _ _ _ (by decide), qu_s]
      have M3 : ∀ j, j ≠ 4 → M9 3 j = zm T 3 j := fun j hj => by rw [g9 3 (by decide), ← hM, qu_o _ _ _ _ _ (by decide), qu_i _ _ _ _ _ hj, qu_o _ _ _ _ _ (by decide)]
      have M41 : M9 4 1 = 0 := by rw [g9 4 (by decide), ← hM, qu_s]
      have M4 : ∀ j, j ≠ 1 → M9 4 j = zm T 4 j := fun j hj => by rw [g9 4 (by decide), ← hM, qu_i _ _ _ _ _ hj, qu_o _ _ _ _ _ (by decide), qu_o _ _ _ _ _ (by decide)]
      have Mo : ∀ x, x ≠ 3 → x ≠ 4 → x ≠ 7 ∧ x ≠ 102 → M9 x = zm T x := fun x x1 x2 x3 => by rw [g9 x x3.2, ← hM, qu_o _ _ _ _ _ x2, qu_o _ _ _ _ _ x1, qu_o _ _ _ _ _ x3.1]
      have hPM : qP M9 := hPT.same fun q hq => by
        have bd : ¬ (q.1 = 3 ∧ q.2.1 = 4) ∧ ¬ (q.1 = 4 ∧ q.2.1 = 1) ∧ q.1 ≠ 7 ∧ q.1 ≠ 102 := by
          revert q
          decide
        by_cases c3 : q.1 = 3
        · rw [c3]
          exact M3 _ fun z => bd.1 ⟨c3, z⟩
        · by_cases c4 : q.1 = 4
          · rw [c4]
            exact M4 _ fun z => bd.2.1 ⟨c4, z⟩
          · rw [Mo _ c3 c4 bd.2.2]
      have M37 : M9 37 = zm S 37 := by rw [Mo 37 (by decide) (by decide) (by decide), s37]
      have M38 : M9 38 = t := by rw [Mo 38 (by decide) (by decide) (by decide), s38]
      have hTZ : (0 ≤ n ∧ n ≤ 60) ∧ ∀ i, 0 ≤ i → i < n → 0 ≤ t i ∧ t i < 65536 := by
        have a1 := hT.2.1
        have a2 := hT.2.2.2
        rw [hnn] at a1 a2
        rw [htt] at a2
        exact ⟨a1, a2⟩
      have hTr : qTr (zm (qW T M9)) := by
        show 0 ≤ M9 37 2 ∧ M9 37 2 ≤ 60 ∧ ∀ i, 0 ≤ i → i < M9 37 2 → 0 ≤ M9 38 i ∧ M9 38 i < 65536
        rw [M37, M38, hnn]
        exact ⟨hTZ.1.1, hTZ.1.2, hTZ.2⟩
      have eP : qPw M9 W 0 = qPw (zm T) W 0 := qPw_e (by rw [Mo 37 (by decide) (by decide) (by decide)]) (Mo 46 (by decide) (by decide) (by decide)) (Mo 47 (by decide) (by decide) (by decide)) (Mo 48 (by decide) (by decide) (by decide)) W 0
      have eH : qhwf M9 (-1) (M9 37 16).toNat = 0 := by
        rw [Mo 37 (by decide) (by decide) (by decide), qhwf_e (Mo 54 (by decide) (by decide) (by decide)) (Mo 49 (by decide) (by decide) (by decide))]
        exact b3
      obtain ⟨m2, r2, ⟨f0, f2, f12⟩, f37, fo, f47, f48, f46⟩ := r_divGood e (qW T M9) n K t (by omega) hKT hPM hTr (by show 0 ≤ M9 37 16 ∧ M9 37 16 ≤ 4; rw [Mo 37 (by decide) (by decide) (by decide)]; exact hBT.2.1) (by show M9 37 2 = n; rw [M37]; exact hnn) M38 (by show M9 37 12 = K; rw [Mo 37 (by decide) (by decide) (by decide)]; exact hKK) (by omega) c (by rw [hW]; show qPw M9 W 0 = 0; rw [eP]; exact b2) eH
      have f37 : ∀ j, j ≠ 0 → j ≠ 2 → j ≠ 12 → j ≠ 33 → j ≠ 36 → j ≠ 38 → m2 37 j = zm S 37 j := fun j j1 j2 j3 j4 j5 j6 => by
        rw [f37 j j1 j2 j3 j4 j5 j6]
        show M9 37 j = _
        rw [M37]
      have fo : ∀ x, x ≠ 37 → x ≠ 64 → x ≠ 46 → x ≠ 47 → x ≠ 48 → m2 x = M9 x := fo
      have e46 : ∀ i, zm (qW T M9) 46 i = zm T 46 i := fun i => by show M9 46 i = _; rw [Mo 46 (by decide) (by decide) (by decide)]
      have e47 : ∀ i, zm (qW T M9) 47 i = zm T 47 i := fun i => by show M9 47 i = _; rw [Mo 47 (by decide) (by decide) (by decide)]
      have e48 : ∀ i, zm (qW T M9) 48 i = zm T 48 i := fun i => by show M9 48 i = _; rw [Mo 48 (by decide) (by decide) (by decide)]
      have ft : ∀ x, x < N → x ≠ 3 → x ≠ 4 → x ≠ 7 ∧ x ≠ 102 → x ≠ 37 → x ≠ 64 → x ≠ 46 → x ≠ 47 → x ≠ 48 → m2 x = zm S x := fun x x0 x1 x2 x3 x4 x5 x6 x7 x8 => by rw [fo x x4 x5 x6 x7 x8, Mo x x1 x2 x3, lo x x0]
      have ftT : ∀ x, x ≠ 3 → x ≠ 4 → x ≠ 7 ∧ x ≠ 102 → x ≠ 37 → x ≠ 64 → x ≠ 46 → x ≠ 47 → x ≠ 48 → m2 x = zm T x := fun x x1 x2 x3 x4 x5 x6 x7 x8 => by rw [fo x x4 x5 x6 x7 x8, Mo x x1 x2 x3]
      have gT : qKp T (qW T m2) := qKp_w T m2
      have nomt := qPw_0 hRT W b2
      have dy := fun i i1 i2 => qRD_1 hRT (k := i) i1 i2
      have hu := hRT.2.2.2
      rw [hKK] at nomt dy hu
      have m237 : ∀ j, j ≠ 0 → j ≠ 2 → j ≠ 12 → j ≠ 33 → j ≠ 36 → j ≠ 38 → m2 37 j = zm T 37 j := fun j j1 j2 j3 j4 j5 j6 => by rw [f37 j j1 j2 j3 j4 j5 j6, s37]
      have m23 : ∀ j, j ≠ 4 → m2 3 j = zm T 3 j := fun j hj => by rw [fo 3 (by decide) (by decide) (by decide) (by decide) (by decide), M3 j hj]
      refine ⟨qW T m2, r2, f0, by show m2 102 0 = o; rw [fo 102 (by decide) (by decide) (by decide) (by decide) (by decide), ← hM9, qu_s], ⟨⟨?_, ?_, ?_, fun i i1 i2 => ?_⟩, ?_, ⟨?_, ?_, fun i i1 i2 => ?_, fun i k i1 i2 k2 => ?_⟩, ?_⟩, ?_, ?_, ?_, fun x hx => ?_, fun x j hx he => ?_⟩
      · show m2 4 1 = m2 37 2
        rw [f2, fo 4 (by decide) (by decide) (by decide) (by decide) (by decide), M41]
      · show 0 ≤ m2 37 2 ∧ m2 37 2 ≤ 60
        rw [f2]
        decide
      · show ∀ i, i < m2 37 2 → m2 5 i = m2 38 i
        rw [ftT 5 (by decide) (by decide) (by decide) (by decide) (by decide) (by decide) (by decide) (by decide), ftT 38 (by decide) (by decide) (by decide) (by decide) (by decide) (by decide) (by decide) (by decide), f2]
        exact fun i i2 => hTT.2.2.1 i (by have := hTT.2.1.1; omega)
      · have i2 : i < m2 37 2 := i2
        omega
      · refine qRC_w hCT gT (m23 2 (by decide)) (m237 4 (by decide) (by decide) (by decide) (by decide) (by decide) (by decide)) (ftT 6 (by decide) (by decide) (by decide) (by decide) (by decide) (by decide) (by decide) (by decide)) (fun x x1 x2 => ftT x (by omega) (by omega) (by omega) (by omega) (by omega) (by omega) (by omega) (by omega)) (fun x x1 x2 _ => ftT x (by omega) (by omega) (by omega) (by omega) (by omega) (by omega) (by omega) (by omega)) (fun x x1 x2 _ => by rw [qmW, ftT x (by omega) (by omega) (by omega) (by omega) (by omega) (by omega) (by omega) (by omega)])
      · show m2 3 4 = m2 37 12
        rw [f12, fo 3 (by decide) (by decide) (by decide) (by decide) (by decide), M34]
      · show 0 ≤ m2 37 12 ∧ m2 37 12 ≤ 12
        omega
      · have i2 : i < m2 37 12 := i2
        rw [f12] at i2
        show qDy (qW T m2) (m2 7 i) (m2 48 i) (m2 47 i) (fun j => m2 46 (10 * i + j))
        rw [fo 7 (by decide) (by decide) (by decide) (by decide) (by decide), M7, f47, f48]
        by_cases q : i = K
        · rw [if_pos q, if_pos q, if_pos q]
          have mN : ∀ x, N ≤ x → m2 x = zm T x := fun x hx => ftT x (by omega) (by omega) (by omega) (by omega) (by omega) (by omega) (by omega) (by omega)
          have qv := fun j j1 (j2 : j < qcw t n.toNat) => v5 j j1 j2
          refine ⟨⟨kN, kL, kE, ?_, ?_, hn, by show N + 3 ≤ (zn T : Int); omega⟩, ⟨kN, ?_, ?_, ?_, fun j j1 j2 => ?_, fun j j1 j2 => ?_, ?_, fun p p1 p2 p3 => ?_⟩, ⟨dv.2.2.2.2, hl10⟩, fun j j1 j2 => ?_, ?_⟩
          · show m2 N 0 = _
            rw [mN N (by omega)]; exact v0
          · show m2 N 2 = _
            rw [mN N (by omega)]; exact v2
          · show m2 N 1 = _
            rw [mN N (by omega)]; exact v1
          · show zk T (m2 N 2) = _
            rw [mN N (by omega), v2]; exact kE
          · show 1 ≤ m2 N 3 ∧ m2 N 3 ≤ 4
            rw [mN N (by omega), v3]; omega
          · have j2 : j < m2 N 3 := j2
            rw [mN N (by omega), v3] at j2
            show 0 < m2 (m2 N 2) j ∧ m2 (m2 N 2) j ≤ _ ∧ qbt (qdB t n) (m2 (m2 N 2) j) = 1
            rw [mN N (by omega), v2, mN (N + 2) (by omega), qv j j1 j2]
            exact dv.1 j j1 j2
          · have j2 : j + 1 < m2 N 3 := j2
            rw [mN N (by omega), v3] at j2
            show m2 (m2 N 2) j < m2 (m2 N 2) (j + 1)
            rw [mN N (by omega), v2, mN (N + 2) (by omega), qv j j1 (by omega), qv (j + 1) (by omega) j2]
            exact dv.2.1 j j1 j2
          · show m2 (m2 N 2) (m2 N 3 - 1) = _
            rw [mN N (by omega), v2, v3, mN (N + 2) (by omega), qv _ (by omega) (by omega)]
            exact dv.2.2.1
          · obtain ⟨j, j1, j2, j3⟩ := dv.2.2.2.1 p p1 p2 p3
            refine ⟨j, j1, ?_, ?_⟩
            · show j < m2 N 3
              rw [mN N (by omega), v3]; exact j2
            · show m2 (m2 N 2) j = p
              rw [mN N (by omega), v2, mN (N + 2) (by omega), qv j j1 j2]; exact j3
          · show m2 46 (10 * i + j) = m2 (N + 1) j + 97
            rw [q, f46, if_pos (by omega), mN (N + 1) (by omega), v4 j j1 j2, show 10 * K + j - 10 * K = j by omega]
            omega
          · obtain ⟨y1, y2, y3, y4, y5⟩ := dv
            have := qpl_E (qdB t n) (qdvl t n.toNat) (qdE t n) (qcw t n.toNat).toNat (fun j j1 j2 => y1 j j1 (by omega)) (fun j j1 j2 => y2 j j1 (by omega)) (by rw [show ((qcw t n.toNat).toNat : Int) - 1 = qcw t n.toNat - 1 by omega]; exact y3) (fun p p1 p2 p3 => by
              obtain ⟨j, j1, j2, j3⟩ := y4 p p1 p2 p3
              exact ⟨j, j1, by omega, j3⟩) ((qcw t n.toNat).toNat - 1) (by omega)
            rw [show (((qcw t n.toNat).toNat - 1 : Nat) : Int) = qcw t n.toNat - 1 by omega, y3] at this
            omega
        · rw [if_neg q, if_neg q, if_neg q, e47, e48]
          have d0 := dy i i1 (by omega)
          have d1 := d0.1
          have d2 := d0.2.2.1
          have eg : ∀ j, 0 ≤ j → j < zm T 47 i → m2 46 (10 * i + j) = zm T 46 (10 * i + j) := fun j j1 j2 => by rw [f46, if_neg (by omega), e46]
          obtain ⟨a1, a2, a3, a4, a5⟩ := qDy_w d0 gT fun x x1 x2 => by
            obtain ⟨-, -, -, -, -, b1, b2⟩ := d1
            exact ftT x (by omega) (by omega) (by omega) (by omega) (by omega) (by omega) (by omega) (by omega)
          exact ⟨a1, a2, a3, fun j j1 j2 => (eg j j1 j2).trans (a4 j j1 j2), a5⟩
      · have k2 : k < m2 37 12 := k2
        rw [f12] at k2
        show ¬ (m2 47 i = m2 47 k ∧ ∀ j, 0 ≤ j → j < m2 47 i → m2 46 (10 * i + j) = m2 46 (10 * k + j))
        rw [f47, f47, if_neg (show ¬ i = K by omega), e47]
        have d0 := (dy i i1 (by omega)).2.2.1
        have eg : ∀ j, 0 ≤ j → j < zm T 47 i → m2 46 (10 * i + j) = zm T 46 (10 * i + j) := fun j j1 j2 => by rw [f46, if_neg (by omega), e46]
        by_cases q : k = K
        · rw [if_pos q]
          intro w
          refine nomt i i1 (by omega) ⟨by rw [hWL]; exact w.1, fun j j1 j2 => ?_⟩
          rw [hWL] at j2
          have w2 := w.2 j j1 (by omega)
          rw [eg j j1 (by omega), q, f46, if_pos (by omega), show 10 * K + j - 10 * K = j by omega] at w2
          show zm T 46 (10 * i + j) = qnth W j + 97
          rw [w2, ← hW, qdW_n t n.toNat j ⟨j1, j2⟩]
          omega
        · rw [if_neg q, e47]
          intro w
          have dk := (dy k (by omega) (by omega)).2.2.1
          refine hu i k i1 i2 (by omega) ⟨w.1, fun j j1 j2 => ?_⟩
          have w2 := w.2 j j1 j2
          have := w.1
          rw [eg j j1 j2, f46, if_neg (by omega), e46] at w2
          exact w2
      · exact qBh_w hBT gT (m23 6 (by decide)) (m237 16 (by decide) (by decide) (by decide) (by decide) (by decide) (by decide)) (ftT 8 (by decide) (by decide) (by decide) (by decide) (by decide) (by decide) (by decide) (by decide)) (ftT 49 (by decide) (by decide) (by decide) (by decide) (by decide) (by decide) (by decide) (by decide)) (ftT 54 (by decide) (by decide) (by decide) (by decide) (by decide) (by decide) (by decide) (by decide)) (by rw [qmW, m237 4 (by decide) (by decide) (by decide) (by decide) (by decide) (by decide)]; exact Int.le_refl _) (fun c _ _ => by rw [qmW, ftT 6 (by decide) (by decide) (by decide) (by decide) (by decide) (by decide) (by decide) (by decide)]) (fun x x1 x2 _ => by rw [qmW, ftT x (by omega) (by omega) (by omega) (by omega) (by omega) (by omega) (by omega) (by omega)]; exact ⟨rfl, rfl⟩)
      · show (zn T : Int) = (zn S : Int) + (3 : Nat)
        omega
      · exact z1
      · exact w1
      · exact lk x (by omega)
      · have he : ¬ (x = 102 ∨ x = 3 ∧ j = 4 ∨ x = 4 ∧ j = 1 ∨ x = 7 ∨ 46 ≤ x ∧ x ≤ 48 ∨ x = 64 ∨ x = 37 ∧ (j = 0 ∨ j = 2 ∨ j = 12 ∨ j = 33 ∨ j = 36 ∨ j = 38)) := he
        show m2 x j = zm S x j
        by_cases c37 : x = 37
        · subst c37
          exact f37 j (by omega) (by omega) (by omega) (by omega) (by omega) (by omega)
        · rw [fo x c37 (by omega) (by omega) (by omega) (by omega)]
          by_cases c3 : x = 3
          · subst c3
            rw [M3 j (by omega), lo 3 (by omega)]
          · by_cases c4 : x = 4
            · subst c4
              rw [M4 j (by omega), lo 4 (by omega)]
            · rw [Mo x c3 c4 (by omega), lo x (by omega)]
  · have cl : zD (e + 1) 120 [vr 3] S = some (.inr 0, zbump S) := by
      have isd := (s_isDivision e S _ _ (by omega) hK hP hT rfl rfl).2 c
      simp (config := { maxSteps := 2000000 }) (disch := first | omega | (simp only [K_3 hK, K_4 hK, P_3_0 hP, P_3_0 hP, qb_in, qkW, qmW, qnW, true_and, and_true, or_self, true_or, or_true, and_self]; done) | (simp only [K_3 hK, K_4 hK, P_3_0 hP, P_3_0 hP, qb_in, qkW, qmW, qnW, true_and, and_true, or_self, true_or, or_true, and_self]; omega)) only [zD_120, b120_0, b120_7, b120_10, b120_20, b120_27, b120_36, b120_45, b120_57, b120_60, b120_64, b120_67, b120_77, b120_93, qcall_l, qcall_r, qretn_l, qJ_s, qJ_n, qV0, qEx, ↓qif0, ↓zchk_pos, ↓reduceIte, qput, qWW, qmW, qkW, qnW, K_3 hK, K_4 hK, P_3_0 hP, P_3_0 hP, isd, Int.reduceEq]
    obtain ⟨m2, r2, f0, f1, f2⟩ := r_divBad e (zbump S) 1 (zm S 37 2) (zm S 38) (by omega) hK hP (qRT_r hT) hR.2.1 hB.2.1 rfl rfl (Or.inl ⟨c, rfl⟩)
    exact Or.inr ⟨0, 0, zbump S, zbump (qW S m2), cl, ⟨rfl, fun _ _ => rfl⟩, r2, f0, by decide, S, m2, rfl, Or.inl rfl, qFq_dv f1 f2⟩
