/-! A copy comes back: both answer alike. -/
theorem r_hurtAt (d : Nat) (S : zS) (k p : Int) (h : 1 ≤ d) (hk : 0 ≤ k ∧ k < 20) (hp : 0 ≤ p ∧ p < 200) : zD d 279 [vi k, vi p] S = some (.inl (some (vi (160 * k + p))), S) := by
  obtain ⟨f, rfl, -⟩ := qd h
  have z1 : z32 (160 * k) = 160 * k := q32 (by omega)
  have z2 : z32 (160 * k + p) = 160 * k + p := q32 (by omega)
  simp (config := { maxSteps := 2000000 }) (disch := first | omega | (simp only [qb_in, qkW, qmW, qnW, true_and, and_true, or_self, true_or, or_true, and_self]; done) | (simp only [qb_in, qkW, qmW, qnW, true_and, and_true, or_self, true_or, or_true, and_self]; omega)) only [zD_279, b279_0, qcall_l, qcall_r, qretn_l, qJ_s, qJ_n, qV0, qEx, ↓qif0, ↓zchk_pos, ↓reduceIte, qput, qWW, qmW, qkW, qnW, z1, z2]
/-- the reference, up to its check -/
theorem r_giveIs (e : Nat) (S : zS) (k hu b P : Int) (he : 12 ≤ e) (hH : qHB1 S) (h65 : 0 ≤ zm S 37 65 ∧ zm S 37 65 ≤ 20) (hk : 0 ≤ k ∧ k < zm S 37 65) (hb : 0 ≤ b ∧ b < zm S 37 16) (h82 : zm S 82 k = b) (hP : zm S (zm S 8 b) 9 = P) (hPr : 0 ≤ P ∧ P ≤ 121) :
    ∃ m', zD (e + 1) 303 [vr 37, vi k, vi hu] S = zF_303 e 38 [vr 37, vi k, vi hu, vu, vu] [vi (if hu = -1 ∨ (0 ≤ hu ∧ hu < P) then 1 else 0)] (qW S m') ∧ qFly (zm S) m' ∧ qHB1 (qW S m') := by
  have hK := hH.1.1.1
  have p66 := P_37_66 hH.1.1.2.1
  have ic := r_iscopy_y e S k (by omega) hK h65 hk
  have k20 : k < 20 := by omega
  by_cases c1 : hu = -1
  · refine ⟨zm S, ?_, fun _ _ _ => rfl, by rw [qWS]; exact hH⟩
    rw [if_pos (Or.inl c1), qWS]
    simp (config := { maxSteps := 2000000 }) (disch := first | omega | (simp only [K_37 hK, qb_in, qkW, qmW, qnW, true_and, and_true, or_self, true_or, or_true, and_self]; done) | (simp only [K_37 hK, qb_in, qkW, qmW, qnW, true_and, and_true, or_self, true_or, or_true, and_self]; omega)) only [zD_303, b303_0, b303_5, b303_8, b303_13, b303_25, b303_30, b303_33, b303_37, b303_44, b303_48, b303_58, b303_62, b303_63, b303_66, b303_69, b303_71, b303_76, b303_92, b303_106, b303_113, b303_122, b303_124, qcall_l, qcall_r, qretn_l, qJ_s, qJ_n, qV0, qEx, ↓qif0, ↓zchk_pos, ↓reduceIte, qput, qWW, qmW, qkW, qnW, K_37 hK, ic, if_pos c1, Int.reduceEq]
  · obtain ⟨m', r, fl, g, -⟩ := r_pagesOf e S b (by omega) hH hb
    rw [hP] at r
    have z1 : z32 (P - 1) = P - 1 := q32 (by omega)
    have i1 := r_in e hu 0 (P - 1) (qW S m') (by omega)
    refine ⟨m', ?_, fl, g⟩
    by_cases c2 : 0 ≤ hu ∧ hu < P
    · rw [if_pos (Or.inr c2)]
      rw [qb_p (show 0 ≤ hu ∧ hu ≤ P - 1 by omega)] at i1
      simp (config := { maxSteps := 2000000 }) (disch := first | omega | (simp only [K_37 hK, K_82 hK, p66, hk.1, k20, qb_in, qkW, qmW, qnW, true_and, and_true, or_self, true_or, or_true, and_self]; done) | (simp only [K_37 hK, K_82 hK, p66, hk.1, k20, qb_in, qkW, qmW, qnW, true_and, and_true, or_self, true_or, or_true, and_self]; omega)) only [zD_303, b303_0, b303_5, b303_8, b303_13, b303_25, b303_30, b303_33, b303_37, b303_44, b303_48, b303_58, b303_62, b303_63, b303_66, b303_69, b303_71, b303_76, b303_92, b303_106, b303_113, b303_122, b303_124, qcall_l, qcall_r, qretn_l, qJ_s, qJ_n, qV0, qEx, ↓qif0, ↓zchk_pos, ↓reduceIte, qput, qWW, qmW, qkW, qnW, K_37 hK, K_82 hK, p66, h82, ic, if_neg c1, r, z1, i1, Int.reduceEq]
    · rw [if_neg (by omega)]
      rw [qb_n (show ¬ (0 ≤ hu ∧ hu ≤ P - 1) by omega)] at i1
      simp (config := { maxSteps := 2000000 }) (disch := first | omega | (simp only [K_37 hK, K_82 hK, p66, hk.1, k20, qb_in, qkW, qmW, qnW, true_and, and_true, or_self, true_or, or_true, and_self]; done) | (simp only [K_37 hK, K_82 hK, p66, hk.1, k20, qb_in, qkW, qmW, qnW, true_and, and_true, or_self, true_or, or_true, and_self]; omega)) only [zD_303, b303_0, b303_5, b303_8, b303_13, b303_25, b303_30, b303_33, b303_37, b303_44, b303_48, b303_58, b303_62, b303_63, b303_66, b303_69, b303_71, b303_76, b303_92, b303_106, b303_113, b303_122, b303_124, qcall_l, qcall_r, qretn_l, qJ_s, qJ_n, qV0, qEx, ↓qif0, ↓zchk_pos, ↓reduceIte, qput, qWW, qmW, qkW, qnW, K_37 hK, K_82 hK, p66, h82, ic, if_neg c1, r, z1, i1, Int.reduceEq]
/-- the reference, behind its check -/
theorem r_giveDo (e : Nat) (S : zS) (m : Int → Int → Int) (k hu h v : Int) (he : 2 ≤ e) (hK : qK S) (hP : qP m) (hk : 0 ≤ k ∧ k < 20) (h86 : m 86 k = h) (h0 : 0 ≤ h ∧ h < 6) (hd : 0 ≤ m 37 3 ∧ m 37 3 ≤ 1000) (h87 : -1 ≤ m 87 k ∧ m 87 k ≤ 1020) (hv : qlb m k = v) (hhu : hu = -1 ∨ (0 ≤ hu ∧ hu < 121)) :
    ∃ m', zF_303 e 38 [vr 37, vi k, vi hu, vu, vu] [vi 1] (qW S m) = some (.inl (some (vi v)), qW S m') ∧ (∀ i, m' 92 i = if i = h then z32 (m 92 h + v) else m 92 i) ∧ (∀ i, m' 86 i = if i = k then -1 else m 86 i) ∧ (∀ i, m' 87 i = if i = k then -1 else m 87 i) ∧ (∀ i, m' 85 i = qhu m k hu 85 i) ∧ m' 37 0 = 0 ∧ (∀ j, j ≠ 0 → m' 37 j = m 37 j) ∧ ∀ z, z ≠ 92 → z ≠ 86 → z ≠ 87 → z ≠ 85 → z ≠ 37 → m' z = m z := by
  have p70 := P_37_70 hP
  have p79 := P_37_79 hP
  have p71 := P_37_71 hP
  have p69 := P_37_69 hP
  have hd0 := r_hold0 e S m (by omega) hK
  obtain ⟨m1, hm1⟩ : ∃ m1, qu m 37 0 0 = m1 := ⟨_, rfl⟩
  rw [hm1] at hd0
  have o1 : ∀ z, z ≠ 37 → m1 z = m z := fun z hz => by rw [← hm1, qu_o _ _ _ _ _ hz]
  have i1 : ∀ j, j ≠ 0 → m1 37 j = m 37 j := fun j hj => by rw [← hm1, qu_i _ _ _ _ _ hj]
  have hP1 : qP m1 := hP.same fun q hq => by
    have n := qPt_n q hq
    by_cases c : q.1 = 37
    · rw [c]; exact i1 _ (by omega)
    · rw [o1 _ c]
  have lb := r_lateBy2 e (qW S m1) k (by omega) hK hP1 hk (by show 0 ≤ m1 37 3 ∧ m1 37 3 ≤ 1000; rw [i1 3 (by decide)]; exact hd) (by show -1 ≤ m1 87 k ∧ m1 87 k ≤ 1020; rw [o1 87 (by decide)]; exact h87)
  rw [show qlb (zm (qW S m1)) k = v by rw [← hv]; show qlb m1 k = _; unfold qlb; rw [o1 87 (by decide), i1 3 (by decide)]] at lb
  have q70 : m1 37 70 = 86 := by rw [i1 70 (by decide), p70]
  have q79 : m1 37 79 = 92 := by rw [i1 79 (by decide), p79]
  have q86 : m1 86 k = h := by rw [o1 86 (by decide), h86]
  obtain ⟨m2, hm2⟩ : ∃ m2, qu m1 92 h (z32 (m1 92 h + v)) = m2 := ⟨_, rfl⟩
  have o2 : ∀ z, z ≠ 92 → m2 z = m1 z := fun z hz => by rw [← hm2, qu_o _ _ _ _ _ hz]
  have r70 : m2 37 70 = 86 := by rw [o2 37 (by decide), q70]
  obtain ⟨m3, hm3⟩ : ∃ m3, qu m2 86 k (-1) = m3 := ⟨_, rfl⟩
  have o3 : ∀ z, z ≠ 86 → m3 z = m2 z := fun z hz => by rw [← hm3, qu_o _ _ _ _ _ hz]
  have r71 : m3 37 71 = 87 := by rw [o3 37 (by decide), o2 37 (by decide), i1 71 (by decide), p71]
  obtain ⟨m4, hm4⟩ : ∃ m4, qu m3 87 k (-1) = m4 := ⟨_, rfl⟩
  have o4 : ∀ z, z ≠ 87 → m4 z = m3 z := fun z hz => by rw [← hm4, qu_o _ _ _ _ _ hz]
  have r69 : m4 37 69 = 85 := by rw [o4 37 (by decide), o3 37 (by decide), o2 37 (by decide), i1 69 (by decide), p69]
  have hn : ¬ h = -1 := by omega
  refine ⟨qhu m4 k hu, ?_, fun i => ?_, fun i => ?_, fun i => ?_, fun i => ?_, ?_, fun j hj => ?_, fun z z1 z2 z3 z4 z5 => ?_⟩
  · unfold qhu
    rw [b303_38]
    by_cases c : hu = -1
    · rw [if_pos c]
      simp (config := { maxSteps := 2000000 }) (disch := first | omega | (simp only [K_37 hK, K_86 hK, K_87 hK, K_92 hK, p70, q70, q79, q86, r70, r71, hk.1, hk.2, h0.1, h0.2, qb_in, qkW, qmW, qnW, true_and, and_true, or_self, true_or, or_true, and_self]; done) | (simp only [K_37 hK, K_86 hK, K_87 hK, K_92 hK, p70, q70, q79, q86, r70, r71, hk.1, hk.2, h0.1, h0.2, qb_in, qkW, qmW, qnW, true_and, and_true, or_self, true_or, or_true, and_self]; omega)) only [b303_0, b303_5, b303_8, b303_13, b303_25, b303_30, b303_33, b303_37, b303_38, b303_44, b303_48, b303_58, b303_62, b303_63, b303_66, b303_69, b303_71, b303_76, b303_92, b303_106, b303_113, b303_122, b303_124, qcall_l, qcall_r, qretn_l, qJ_s, qJ_n, qV0, qEx, ↓qif0, ↓zchk_pos, ↓reduceIte, qput, qWW, qmW, qkW, qnW, K_37 hK, K_86 hK, K_87 hK, K_92 hK, p70, h86, if_neg hn, hd0, lb, q70, q79, q86, hm2, r70, hm3, r71, hm4, if_pos c, Int.reduceEq]
    · rw [if_neg c]
      have h2 := hhu.resolve_left c
      have ha := r_hurtAt e (qW S m4) k hu (by omega) hk ⟨h2.1, by omega⟩
      have w0 : 0 ≤ 160 * k + hu := by omega
      have w1 : 160 * k + hu < 3200 := by omega
      simp (config := { maxSteps := 2000000 }) (disch := first | omega | (simp only [K_37 hK, K_85 hK, K_86 hK, K_87 hK, K_92 hK, p70, q70, q79, q86, r70, r71, r69, hk.1, hk.2, h0.1, h0.2, w0, w1, qb_in, qkW, qmW, qnW, true_and, and_true, or_self, true_or, or_true, and_self]; done) | (simp only [K_37 hK, K_85 hK, K_86 hK, K_87 hK, K_92 hK, p70, q70, q79, q86, r70, r71, r69, hk.1, hk.2, h0.1, h0.2, w0, w1, qb_in, qkW, qmW, qnW, true_and, and_true, or_self, true_or, or_true, and_self]; omega)) only [b303_0, b303_5, b303_8, b303_13, b303_25, b303_30, b303_33, b303_37, b303_38, b303_44, b303_48, b303_58, b303_62, b303_63, b303_66, b303_69, b303_71, b303_76, b303_92, b303_106, b303_113, b303_122, b303_124, qcall_l, qcall_r, qretn_l, qJ_s, qJ_n, qV0, qEx, ↓qif0, ↓zchk_pos, ↓reduceIte, qput, qWW, qmW, qkW, qnW, K_37 hK, K_85 hK, K_86 hK, K_87 hK, K_92 hK, p70, h86, if_neg hn, hd0, lb, q70, q79, q86, hm2, r70, hm3, r71, hm4, if_neg c, ha, r69, Int.reduceEq]
  · rw [qhu_o _ _ _ _ (by decide), o4 92 (by decide), o3 92 (by decide), ← hm2, qu_row, o1 92 (by decide)]
  · rw [qhu_o _ _ _ _ (by decide), o4 86 (by decide), ← hm3, qu_row, o2 86 (by decide), o1 86 (by decide)]
  · rw [qhu_o _ _ _ _ (by decide), ← hm4, qu_row, o3 87 (by decide), o2 87 (by decide), o1 87 (by decide)]
  · rw [qhu_r, qhu_r, o4 85 (by decide), o3 85 (by decide), o2 85 (by decide), o1 85 (by decide)]
  · rw [qhu_o _ _ _ _ (by decide), o4 37 (by decide), o3 37 (by decide), o2 37 (by decide), ← hm1, qu_s]
  · rw [qhu_o _ _ _ _ (by decide), o4 37 (by decide), o3 37 (by decide), o2 37 (by decide), i1 j hj]
  · rw [qhu_o _ _ _ _ z4, o4 z z3, o3 z z2, o2 z z1, o1 z z5]
/-- books don't rest on the post -/
theorem qHB1_p {S : zS} {m m' : Int → Int → Int} (H : qHB1 (qW S m)) (h : ∀ z j, ¬ (81 ≤ z ∧ z ≤ 94) → ¬ (z = 37 ∧ (j = 0 ∨ j = 3 ∨ j = 65 ∨ j = 73 ∨ j = 75 ∨ j = 76 ∨ j = 80)) → m' z j = m z j) : qHB1 (qW S m') := qHB1_m (S := qW S m) H ⟨⟨Nat.le_refl _, fun _ _ => rfl⟩, fun z j _ hz => h z j (by unfold qEh at hz; omega) (by unfold qEh at hz; omega)⟩
theorem q_give_1 {S : zS} {M : Int → Int → Int} {g y N P : Int} (hH : qHC S) (kg : zk S g = (27, 0)) (g103 : 103 ≤ g) (ky : zk S y = (24, 0)) (ky1 : zk S (y + 1) = (3, N)) (ky2 : zk S (y + 2) = (4, P)) (y103 : 103 ≤ y) (MK : ∀ z, z ≠ 102 → z ≠ g → z ≠ y → z ≠ y + 1 → z ≠ y + 2 → M z = zm S z) : qHB1 (qW S M) := by
  have nky := qknn ky
  have nky1 := qknn ky1
  have nky2 := qknn ky2
  have nkg := qknn kg
  refine qHB1_m (S := S) (qHB1_0 hH.1) (qAg_w fun z j hz => ?_)
  unfold qEh at hz
  refine congrFun (MK z (by omega) (fun q => hz ?_) (fun q => hz ?_) (fun q => hz ?_) (fun q => hz ?_)) j
  · rw [q]; omega
  · rw [q]; omega
  · rw [q, show y + 1 - 1 = y by omega]; omega
  · rw [q]; omega
theorem q_give_5 {zS0 M T m2 m3 : Int → Int → Int} {k hu h v : Int} (l2 : ∀ z, 81 ≤ z → z ≤ 94 → m2 z = zS0 z) (fl2 : qFly M m2) (t92 : ∀ i, m3 92 i = if i = h then z32 (m2 92 h + v) else m2 92 i) (t86 : ∀ i, m3 86 i = if i = k then -1 else m2 86 i) (t87 : ∀ i, m3 87 i = if i = k then -1 else m2 87 i) (t85 : ∀ i, m3 85 i = qhu m2 k hu 85 i) (t37 : ∀ j, j ≠ 0 → m3 37 j = m2 37 j) (to : ∀ z, z ≠ 92 → z ≠ 86 → z ≠ 87 → z ≠ 85 → z ≠ 37 → m3 z = m2 z)
    (T92 : ∀ i, T 92 i = if i = h then z32 (zS0 92 h + v) else zS0 92 i) (T86 : ∀ i, T 86 i = if i = k then -1 else zS0 86 i) (T87 : ∀ i, T 87 i = if i = k then -1 else zS0 87 i) (T85 : ∀ i, T 85 i = qhu zS0 k hu 85 i) (To : ∀ z, z ≠ 92 → z ≠ 86 → z ≠ 87 → z ≠ 85 → T z = M z) : qF0 T m3 := fun z i hz => by
  by_cases q1 : z = 37
  · subst q1
    rw [t37 i (fun q => hz (Or.inr ⟨rfl, q⟩)), To 37 (by decide) (by decide) (by decide) (by decide)]
    exact fl2 37 i fun q => hz (Or.inl q)
  · by_cases q2 : z = 92
    · subst q2
      rw [t92, T92, l2 92 (by decide) (by decide)]
    · by_cases q3 : z = 86
      · subst q3
        rw [t86, T86, l2 86 (by decide) (by decide)]
      · by_cases q4 : z = 87
        · subst q4
          rw [t87, T87, l2 87 (by decide) (by decide)]
        · by_cases q5 : z = 85
          · subst q5
            rw [t85, T85, qhu_r, qhu_r, l2 85 (by decide) (by decide)]
          · rw [to z q2 q3 q4 q5 q1, To z q2 q3 q4 q5]
            exact fl2 z i fun q => hz (Or.inl q)
theorem q_give_y (e : Nat) (S : zS) (k hu h b x y w t P : Int) (he : 14 ≤ e) (hH : qHC S) (hk : 0 ≤ k ∧ k < zm S 37 65) (hq : qCq S k b x y w t P) (h86 : zm S 86 k = h) (h0 : 0 ≤ h ∧ h < zm S 37 76) (hhu : hu = -1 ∨ (0 ≤ hu ∧ hu < P)) :
    qUn vi qid (qGo S) S (zD (e + 1) 148 [vr 3, vi k, vi hu] S) (zD (e + 1) 303 [vr 37, vi k, vi hu]) qpsE := by
  obtain ⟨⟨⟨⟨hK, hP, hL, hn⟩, -, ⟨p1, p2, p3, p4, p5, p6⟩, hY⟩, hBB⟩, hYC, hFc⟩ := id hH
  have hq0 := hq
  obtain ⟨⟨a1, a2, a3, a4, a5, a6⟩, ⟨b1, b2, b3, b4, b5, b6⟩, ⟨ky, ky1, ky2, y103, yn⟩, -⟩ := hq
  obtain ⟨g, hg⟩ : ∃ g, zm S 14 h = g := ⟨_, rfl⟩
  obtain ⟨v, hv⟩ : ∃ v, qlb (zm S) k = v := ⟨_, rfl⟩
  obtain ⟨C, rC, Cg, Cy, C4, C2, C1, Co⟩ := s_giveBack e S k hu h b x y g w t P v (by omega) hH hk hq0 h86 h0 hg hhu hv
  obtain ⟨⟨kg, kg1, g103, gn, g1⟩, -⟩ := p5.2.1 h h0.1 h0.2
  rw [hg] at kg kg1 g103 gn g1
  have n65 := p4.1.2
  have n76 := p5.1.2
  have nky := qknn ky
  have nky1 := qknn ky1
  have nky2 := qknn ky2
  have nkg := qknn kg
  have d87 := (p4.2.1 k hk.1 hk.2).2.2.2.2.2.2.2.2
  have lo : ∀ z, z < 103 → C z = zm S z := fun z hz => Co z (by omega) (by omega) (by omega) (by omega)
  refine Or.inl ⟨v, qW S C, rC, qKs_w S _ (lo 1 (by decide)), ?_⟩
  obtain ⟨M, hM⟩ : ∃ M, qu C 102 0 (qid v) = M := ⟨_, rfl⟩
  have hq1 : qo (qW S C) (qid v) = qW S M := by rw [← hM]; rfl
  have Mo : ∀ z, z ≠ 102 → M z = C z := fun z hz => by rw [← hM, qu_o _ _ _ _ _ hz]
  have Ml : ∀ z, z < 102 → M z = zm S z := fun z hz => by rw [Mo z (by omega), lo z (by omega)]
  have MK : ∀ z, z ≠ 102 → z ≠ g → z ≠ y → z ≠ y + 1 → z ≠ y + 2 → M z = zm S z := fun z h1 h2 h3 h4 h5 => by rw [Mo z h1, Co z h2 h3 h4 h5]
  have H1 : qHB1 (qW S M) := q_give_1 hH kg g103 ky ky1 ky2 y103 MK
  obtain ⟨f1, f2, f3⟩ := (hY.2.1 b b1 b2).1
  have x103 := f3.2.1
  rw [a2] at f1 x103
  have nx := qknn f1
  have M37 : M 37 = zm S 37 := Ml 37 (by decide)
  obtain ⟨m2, r2, fl2, H2⟩ := r_giveIs e (qW S M) k hu b P (by omega) H1 (by show 0 ≤ M 37 65 ∧ M 37 65 ≤ 20; rw [M37]; exact n65) (by show 0 ≤ k ∧ k < M 37 65; rw [M37]; exact hk) (by show 0 ≤ b ∧ b < M 37 16; rw [M37]; exact ⟨b1, b2⟩) (by show M 82 k = b; rw [Ml 82 (by decide), a1]) (by
    show M (M 8 b) 9 = P
    rw [Ml 8 (by decide), a2, MK x (by omega) (fun q => by rw [q] at nx; omega) (fun q => by rw [q] at nx; omega) (fun q => by rw [q] at nx; omega) (fun q => by rw [q] at nx; omega), a6]) ⟨by omega, b5⟩
  rw [if_pos hhu] at r2
  have r2 : zD (e + 1) 303 [vr 37, vi k, vi hu] (qW S M) = zF_303 e 38 [vr 37, vi k, vi hu, vu, vu] [vi 1] (qW S m2) := r2
  have fl2 : qFly M m2 := fl2
  have l2 : ∀ z, 81 ≤ z → z ≤ 94 → m2 z = zm S z := fun z z1 z2 => by
    rw [← Ml z (by omega)]
    exact funext fun i => fl2 z i (by unfold qfly; omega)
  have hP2 : qP m2 := H2.1.1.2.1
  have m23 : m2 37 3 = zm S 37 3 := by rw [fl2 37 3 (by unfold qfly; omega), M37]
  obtain ⟨m3, r3, t92, t86, t87, t85, t0, t37, to⟩ := r_giveDo e S m2 k hu h v (by omega) hK hP2 ⟨hk.1, by omega⟩ (by rw [l2 86 (by decide) (by decide), h86]) ⟨h0.1, by omega⟩ (by rw [m23]; exact p2.2) (by rw [l2 87 (by decide) (by decide)]; omega) (by rw [← hv]; unfold qlb; rw [l2 87 (by decide) (by decide), m23]) (by omega)
  -- the same without what lies
  obtain ⟨T, hT⟩ : ∃ T, qhu (qu (qu (qu M 92 h (z32 (M 92 h + v))) 86 k (-1)) 87 k (-1)) k hu = T := ⟨_, rfl⟩
  have T92 : ∀ i, T 92 i = if i = h then z32 (zm S 92 h + v) else zm S 92 i := fun i => by rw [← hT, qhu_o _ _ _ _ (by decide), qu_o _ _ _ _ _ (by decide), qu_o _ _ _ _ _ (by decide), qu_row, Ml 92 (by decide)]
  have T86 : ∀ i, T 86 i = if i = k then -1 else zm S 86 i := fun i => by rw [← hT, qhu_o _ _ _ _ (by decide), qu_o _ _ _ _ _ (by decide), qu_row, qu_o _ _ _ _ _ (by decide), Ml 86 (by decide)]
  have T87 : ∀ i, T 87 i = if i = k then -1 else zm S 87 i := fun i => by rw [← hT, qhu_o _ _ _ _ (by decide), qu_row, qu_o _ _ _ _ _ (by decide), qu_o _ _ _ _ _ (by decide), Ml 87 (by decide)]
  have T85 : ∀ i, T 85 i = qhu (zm S) k hu 85 i := fun i => by rw [← hT, qhu_r, qhu_r, qu_o _ _ _ _ _ (by decide), qu_o _ _ _ _ _ (by decide), qu_o _ _ _ _ _ (by decide), Ml 85 (by decide)]
  have To : ∀ z, z ≠ 92 → z ≠ 86 → z ≠ 87 → z ≠ 85 → T z = M z := fun z z1 z2 z3 z4 => by rw [← hT, qhu_o _ _ _ _ z4, qu_o _ _ _ _ _ z3, qu_o _ _ _ _ _ z2, qu_o _ _ _ _ _ z1]
  have Th : ∀ z, 103 ≤ z → T z = C z := fun z hz => by rw [To z (by omega) (by omega) (by omega) (by omega), Mo z (by omega)]
  have HT : qHC (qW S T) := q_give_T (v := v) hH hk hq0 h86 h0 hg hhu T92 T86 T87 T85 (fun j => by rw [Th g g103, Cg]) (fun j hj => by rw [Th y y103, Cy j hj]) (by rw [Th y y103, C4]) (fun p p1 p2 => by rw [Th _ (by omega), C2 p p1 p2]) (fun i hi => by rw [Th _ (by omega), C1 i hi]) (fun z z1 z2 z3 z4 z5 z6 z7 z8 z9 => by rw [To z z5 z6 z7 z8, MK z z9 z1 z2 z3 z4])
  have f5 : qF0 T m3 := q_give_5 l2 fl2 t92 t86 t87 t85 t37 to T92 T86 T87 T85 To
  have H5 : qHB1 (qW S m3) := qHB1_p H2 fun z j h1 h2 => by
    by_cases q1 : z = 37
    · subst q1
      exact t37 j fun q => h2 ⟨rfl, Or.inl q⟩
    · exact congrFun (to z (fun q => h1 ⟨by rw [q]; decide, by rw [q]; decide⟩) (fun q => h1 ⟨by rw [q]; decide, by rw [q]; decide⟩) (fun q => h1 ⟨by rw [q]; decide, by rw [q]; decide⟩) (fun q => h1 ⟨by rw [q]; decide, by rw [q]; decide⟩) q1) j
  have F5 : qFzz (qW S T) m3 := qF0_z (S := qW S T) f5
  have H6 : qHC (qW S m3) := qHC_z (S := qW S T) HT F5 ⟨qH0_x (S := qW S T) HT.1.1 F5.1, H5.2⟩
  refine ⟨qW S m3, ?_, qKs_w S _ ?_, t0, ?_, qGo_w H6 ?_ ?_⟩
  · rw [hq1, r2, r3]
  · rw [to 1 (by decide) (by decide) (by decide) (by decide) (by decide), show m2 1 = M 1 from funext fun i => fl2 1 i (by unfold qfly; omega), Ml 1 (by decide)]
  · show m3 102 0 = _
    rw [to 102 (by decide) (by decide) (by decide) (by decide) (by decide), show m2 102 0 = M 102 0 from fl2 102 0 (by unfold qfly; omega), ← hM, qu_s]
  · rw [t37 16 (by decide), show m2 37 16 = M 37 16 from fl2 37 16 (by unfold qfly; omega), M37]
  · rw [t37 65 (by decide), show m2 37 65 = M 37 65 from fl2 37 65 (by unfold qfly; omega), M37]
theorem q_giveBack (d : Nat) (S : zS) (k hu : Int) (h : 15 ≤ d) (hH : qHC S) :
    qUn vi qid (qGo S) S (zD d 148 [vr 3, vi k, vi hu] S) (zD d 303 [vr 37, vi k, vi hu]) qpsE := by
  obtain ⟨⟨⟨⟨hK, hP, hL, hn⟩, -, ⟨p1, p2, p3, p4, p5, p6⟩, hY⟩, hBB⟩, hYC, hFc⟩ := id hH
  by_cases c1 : 0 ≤ k ∧ k < zm S 37 65
  · obtain ⟨e, rfl, he⟩ := qd h
    obtain ⟨b, x, y, w, t, P, q⟩ := hYC.2.1 k c1.1 c1.2
    have q0 := q
    obtain ⟨⟨a1, a2, a3, a4, a5, a6⟩, ⟨b1, b2, b3, b4, b5, b6⟩, ⟨ky, ky1, ky2, y103, yn⟩, ⟨y2, y3, y4⟩, -⟩ := q
    have co := s_copyOf_y e S k (by omega) hK hP p4.1 c1
    obtain ⟨-, -, -, -, -, y6, -, -, dd⟩ := p4.2.1 k c1.1 c1.2
    rw [a3] at co y6
    have n65 := p4.1.2
    have k20 : k < 20 := by omega
    obtain ⟨m2, r2, f2, H2⟩ := r_giveIs e (zbump S) k hu b P (by omega) (qHB1_0 hH.1) n65 c1 ⟨b1, b2⟩ a1 (by show zm S (zm S 8 b) 9 = P; rw [a2, a6]) ⟨by omega, b5⟩
    have r2 : zD (e + 1) 303 [vr 37, vi k, vi hu] (zbump S) = zF_303 e 38 [vr 37, vi k, vi hu, vu, vu] [vi (if hu = -1 ∨ (0 ≤ hu ∧ hu < P) then 1 else 0)] (zbump (qW S m2)) := r2
    have hKb2 : qK (zbump (qW S m2)) := hK
    by_cases c2 : hu = -1 ∨ (0 ≤ hu ∧ hu < P)
    · by_cases c3 : zm S 86 k = -1
      · rw [if_pos c2] at r2
        have hd : zD e 182 [vr 37, vi 2] (zbump (qW S m2)) = some (.inl (some (vi 0)), zbump (qW S (qu m2 37 0 2))) := r_holdn e (zbump S) m2 2 (by omega) hK (by decide)
        refine qUn_cx hH 1 ?_ (by decide) ⟨qu m2 37 0 2, ?_, qF0_t (qF0_l f2) (qF0_u m2 2), qu_s _ _ _ _, qHB_0 (S := S) H2 2⟩ fun m f H => qGo_x hH f H
        · have nlt : ¬ hu < -1 := by omega
          have huP : hu < P := by omega
          have y6 : zm S y 6 = -1 := y6.trans c3
          simp (config := { maxSteps := 2000000 }) (disch := first | omega | (simp only [K_3 hK, ky, y3, ky2, qb_in, qkW, qmW, qnW, true_and, and_true, or_self, true_or, or_true, and_self]; done) | (simp only [K_3 hK, ky, y3, ky2, qb_in, qkW, qmW, qnW, true_and, and_true, or_self, true_or, or_true, and_self]; omega)) only [zD_148, b148_0, b148_5, b148_11, b148_20, b148_31, b148_39, b148_50, b148_58, b148_68, b148_88, b148_97, b148_102, b148_107, qcall_l, qcall_r, qretn_l, qJ_s, qJ_n, qV0, qEx, ↓qif0, ↓zchk_pos, ↓reduceIte, qput, qWW, qmW, qkW, qnW, K_3 hK, co, if_neg nlt, ky, y3, ky2, if_pos huP, y6, Int.reduceEq]
        · have p70 : zm (zbump (qW S m2)) 37 70 = 86 := P_37_70 H2.1.1.2.1
          have q86 : zm (zbump (qW S m2)) 86 k = -1 := by
            show m2 86 k = -1
            rw [f2 86 k (by unfold qfly; omega)]
            exact c3
          rw [r2, b303_38]
          simp (config := { maxSteps := 2000000 }) (disch := first | omega | (simp only [K_37 hKb2, K_86 hKb2, p70, c1.1, k20, qb_in, qkW, qmW, qnW, true_and, and_true, or_self, true_or, or_true, and_self]; done) | (simp only [K_37 hKb2, K_86 hKb2, p70, c1.1, k20, qb_in, qkW, qmW, qnW, true_and, and_true, or_self, true_or, or_true, and_self]; omega)) only [b303_0, b303_5, b303_8, b303_13, b303_25, b303_30, b303_33, b303_37, b303_38, b303_44, b303_48, b303_58, b303_62, b303_63, b303_66, b303_69, b303_71, b303_76, b303_92, b303_106, b303_113, b303_122, b303_124, qcall_l, qcall_r, qretn_l, qJ_s, qJ_n, qV0, qEx, ↓qif0, ↓zchk_pos, ↓reduceIte, qput, qWW, qmW, qkW, qnW, K_37 hKb2, K_86 hKb2, p70, q86, hd, Int.reduceEq]
      · obtain ⟨d1, -⟩ := dd.resolve_left fun q => c3 q.1
        exact q_give_y e S k hu _ b x y w t P he hH c1 q0 rfl d1 c2
    · rw [if_neg c2] at r2
      have hd : zD e 182 [vr 37, vi 1] (zbump (qW S m2)) = some (.inl (some (vi 0)), zbump (qW S (qu m2 37 0 1))) := r_holdn e (zbump S) m2 1 (by omega) hK (by decide)
      refine qUn_cx hH 2 ?_ (by decide) ⟨qu m2 37 0 1, ?_, qF0_t (qF0_l f2) (qF0_u m2 1), qu_s _ _ _ _, qHB_0 (S := S) H2 1⟩ fun m f H => qGo_x hH f H
      · by_cases c4 : hu < -1
        · simp (config := { maxSteps := 2000000 }) (disch := first | omega | (simp only [K_3 hK, qb_in, qkW, qmW, qnW, true_and, and_true, or_self, true_or, or_true, and_self]; done) | (simp only [K_3 hK, qb_in, qkW, qmW, qnW, true_and, and_true, or_self, true_or, or_true, and_self]; omega)) only [zD_148, b148_0, b148_5, b148_11, b148_20, b148_31, b148_39, b148_50, b148_58, b148_68, b148_88, b148_97, b148_102, b148_107, qcall_l, qcall_r, qretn_l, qJ_s, qJ_n, qV0, qEx, ↓qif0, ↓zchk_pos, ↓reduceIte, qput, qWW, qmW, qkW, qnW, K_3 hK, co, if_pos c4]
        · simp (config := { maxSteps := 2000000 }) (disch := first | omega | (simp only [K_3 hK, ky, y3, ky2, qb_in, qkW, qmW, qnW, true_and, and_true, or_self, true_or, or_true, and_self]; done) | (simp only [K_3 hK, ky, y3, ky2, qb_in, qkW, qmW, qnW, true_and, and_true, or_self, true_or, or_true, and_self]; omega)) only [zD_148, b148_0, b148_5, b148_11, b148_20, b148_31, b148_39, b148_50, b148_58, b148_68, b148_88, b148_97, b148_102, b148_107, qcall_l, qcall_r, qretn_l, qJ_s, qJ_n, qV0, qEx, ↓qif0, ↓zchk_pos, ↓reduceIte, qput, qWW, qmW, qkW, qnW, K_3 hK, co, if_neg c4, ky, y3, ky2, if_neg (show ¬ hu < P by omega)]
      · rw [r2, b303_38]
        simp (config := { maxSteps := 2000000 }) (disch := first | omega | (simp only [K_37 hKb2, qb_in, qkW, qmW, qnW, true_and, and_true, or_self, true_or, or_true, and_self]; done) | (simp only [K_37 hKb2, qb_in, qkW, qmW, qnW, true_and, and_true, or_self, true_or, or_true, and_self]; omega)) only [b303_0, b303_5, b303_8, b303_13, b303_25, b303_30, b303_33, b303_37, b303_38, b303_44, b303_48, b303_58, b303_62, b303_63, b303_66, b303_69, b303_71, b303_76, b303_92, b303_106, b303_113, b303_122, b303_124, qcall_l, qcall_r, qretn_l, qJ_s, qJ_n, qV0, qEx, ↓qif0, ↓zchk_pos, ↓reduceIte, qput, qWW, qmW, qkW, qnW, K_37 hKb2, hd, Int.reduceEq]
  · exact qUn_cn hH (q_giveBack_n d S k hu (by omega) hK p4.1 c1) fun m2 f H => qGo_x hH f H
