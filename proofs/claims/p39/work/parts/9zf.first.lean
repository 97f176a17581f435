/-! The first calls of the law in both houses: a code, books, readers. -/
theorem cv_code (d : Nat) (S : zS) (h : 5 ≤ d) (hK : qK S) (hP : qP (zm S)) (hC : qRC S) (hn : 103 ≤ (zn S : Int)) (c3 : zm S 37 4 < 3) : ∃ S2, zD d 118 [vr 3] S = some (.inl (some (vi (zm S 37 4))), S2) ∧ zm S2 3 2 = zm S 37 4 + 1 := by
  obtain ⟨e, rfl, h1⟩ := qd h
  have hCy : ∀ i, 0 ≤ i → i < zm S 37 4 → qCy S (zm S 6 i) (zm S 39 i) (qTm (zm S) i) := hC.2.2.1
  obtain ⟨r1, r2, r3, r4, r5⟩ := hC
  obtain ⟨S', r, n1, z1, w1, k1, m1⟩ := s_codeInit e (zalloc S 22 0 4) (zn S) (zn S + 1) (by omega) (qal_e _ _ _ _ rfl) (by omega) (qal_n _ _ _ _)
  generalize hN : (zn S : Int) = N at *
  generalize hc : zm S 37 4 = c at *
  have hm : ∀ x, x < N → zm S' x = zm S x := fun x hx => by
    rw [m1, qu_o _ _ _ _ _ (by omega), qu_o _ _ _ _ _ (by omega), qz_o _ (by omega), qz_o _ (by omega), qu_o _ _ _ _ _ (by omega), qz_o _ (by omega), qu_o _ _ _ _ _ (by omega), qz_o _ (by omega), qal_m, qz_o _ (by omega)]
  have hk : ∀ x, x < N → zk S' x = zk S x := fun x hx => by
    rw [k1, if_neg (by omega), if_neg (by omega), if_neg (by omega), if_neg (by omega), qal_o _ _ _ _ (by omega)]
  have hkN : zk S' N = (22, 0) := by
    rw [k1, if_neg (by omega), if_neg (by omega), if_neg (by omega), if_neg (by omega), qal_e _ _ _ _ hN.symm]
  have hK' : qK S' := qK_g hK (by omega) (by rw [hN]; exact hk)
  have e3 : zm S' 3 = zm S 3 := hm 3 (by omega)
  have e31 : zm S' 3 1 = 6 := by rw [e3]; exact P_3_1 hP
  have e32 : zm S' 3 2 = c := by rw [e3]; exact r1
  have x3 : qu (zm S') 6 c N 3 = zm S' 3 := qu_o _ _ _ _ _ (by decide)
  have s32 : qu (qu (zm S') 6 c N) 3 2 (c + 1) 3 2 = c + 1 := qu_s _ _ _ _
  have cls : zD (e + 1) 118 [vr 3] S = some (.inl (some (vi c)), qW S' (qu (qu (zm S') 6 c N) 3 2 (c + 1))) := by
    simp (config := { maxSteps := 2000000 }) (disch := first | omega | (simp only [K_3 hK, K_3 hK', K_6 hK', hN, hkN, e31, e32, x3, qb_in, qkW, qmW, qnW, true_and, and_true, or_self, true_or, or_true, and_self]; done) | (simp only [K_3 hK, K_3 hK', K_6 hK', hN, hkN, e31, e32, x3, qb_in, qkW, qmW, qnW, true_and, and_true, or_self, true_or, or_true, and_self]; omega)) only [zD_118, b118_0, b118_8, b118_18, b118_33, b118_49, qcall_l, qcall_r, qretn_l, qJ_s, qJ_n, qV0, qEx, ↓qif0, ↓zchk_pos, ↓reduceIte, qput, qWW, qmW, qkW, qnW, K_3 hK, K_6 hK', P_3_1 hP, r1, if_pos c3, r, hN, e31, e32, x3, s32, hkN, q32, show c + 1 - 1 = c by omega]
  exact ⟨_, cls, s32⟩
theorem cv_reader (d : Nat) (S : zS) (g : Int) (h : 4 ≤ d) (hK : qK S) (hP : qP (zm S)) (hN : qNr S) (hn : 103 ≤ (zn S : Int)) (c1 : 0 ≤ g ∧ g ≤ 2) (c2 : zm S 37 76 < 6) : ∃ S2, zD d 141 [vr 3, vi g] S = some (.inl (some (vi (zm S 37 76))), S2) ∧ zm S2 3 11 = zm S 37 76 + 1 := by
  obtain ⟨e, rfl, h1⟩ := qd h
  have hKb : qK (zbump S) := hK
  obtain ⟨n1, n2⟩ := hN
  obtain ⟨N, hNn⟩ : ∃ N : Int, (zn S : Int) = N := ⟨_, rfl⟩
  obtain ⟨k, hk⟩ : ∃ k, zm S 37 76 = k := ⟨_, rfl⟩
  rw [hk] at n1 n2 c2
  have ci := s_readerInit e (zalloc S 27 0 4) N g (N + 1) (by omega) (qal_e _ _ _ _ hNn.symm) (by omega) (by rw [qal_n, hNn])
  obtain ⟨T, hT⟩ : ∃ T, qW (zalloc (zalloc S 27 0 4) 0 3 3) (qu (qu (qz (zm (zalloc S 27 0 4)) (N + 1)) N 1 (N + 1)) N 0 g) = T := ⟨_, rfl⟩
  rw [hT] at ci
  have kT : ∀ x, zk T x = if x = N + 1 then (0, 3) else if x = N then (27, 0) else zk S x := fun x => by
    rw [← hT, ← hNn]; rfl
  have mT : ∀ x, x < N → zm T x = zm S x := fun x hx => by
    rw [← hT, qmW, qu_o _ _ _ _ _ (by omega), qu_o _ _ _ _ _ (by omega), qz_o _ (by omega), qal_m, qz_o _ (by omega)]
  have mN0 : zm T N 0 = g := by rw [← hT, qmW, qu_s]
  have mN1 : zm T N 1 = N + 1 := by rw [← hT, qmW, qu_i _ _ _ _ _ (by decide), qu_s]
  have mN2 : ∀ j, j ≠ 0 → j ≠ 1 → zm T N j = 0 := fun j j0 j1 => by rw [← hT, qmW, qu_i _ _ _ _ _ j0, qu_i _ _ _ _ _ j1, qz_o _ (by omega), qal_m, hNn, qz_s]
  have mL : ∀ j, zm T (N + 1) j = 0 := fun j => by rw [← hT, qmW, qu_o _ _ _ _ _ (by omega), qu_o _ _ _ _ _ (by omega), qz_s]
  have nT : (zn T : Int) = N + 2 := by rw [← hT, qnW, qal_n, qal_n, hNn]; omega
  have zT : zc T = zc S + 2 := by rw [← hT]; rfl
  have wT : zw T = zw S + 7 := by rw [← hT]; rfl
  have hKT : qK T := qK_g hK (by omega) fun x hx => by rw [kT, if_neg (by omega), if_neg (by omega)]
  have kN : zk T N = (27, 0) := by rw [kT, if_neg (by omega), if_pos rfl]
  have e3 : zm T 3 = zm S 3 := mT 3 (by omega)
  have e311 : zm T 3 11 = k := by rw [e3]; exact n1
  have x3 : qu (zm T) 14 k N 3 = zm S 3 := by rw [qu_o _ _ _ _ _ (by decide), e3]
  have s11 : qu (qu (zm T) 14 k N) 3 11 (k + 1) 3 11 = k + 1 := qu_s _ _ _ _
  have p10 : zm S 3 10 = 14 := P_3_10 hP
  have cls : zD (e + 1) 141 [vr 3, vi g] S = some (.inl (some (vi k)), qW T (qu (qu (zm T) 14 k N) 3 11 (k + 1))) := by
    simp (config := { maxSteps := 2000000 }) (disch := first | omega | (simp only [K_3 hK, K_14 hKT, K_3 hKT, p10, n1, hNn, kN, x3, qb_in, qkW, qmW, qnW, true_and, and_true, or_self, true_or, or_true, and_self]; done) | (simp only [K_3 hK, K_14 hKT, K_3 hKT, p10, n1, hNn, kN, x3, qb_in, qkW, qmW, qnW, true_and, and_true, or_self, true_or, or_true, and_self]; omega)) only [zD_141, b141_0, b141_4, b141_9, b141_20, b141_29, b141_40, b141_56, b141_72, qcall_l, qcall_r, qretn_l, qJ_s, qJ_n, qV0, qEx, ↓qif0, ↓zchk_pos, ↓reduceIte, qput, qWW, qmW, qkW, qnW, K_3 hK, K_14 hKT, K_3 hKT, p10, n1, hNn, if_neg (show ¬ g < 0 by omega), if_neg (show ¬ 2 < g by omega), if_pos c2, ci, kN, x3, s11, q32, show k + 1 - 1 = k by omega]
  rw [hk]
  exact ⟨_, cls, s11⟩
theorem cv_book (d : Nat) (S : zS) (c g w t b : Int) (h : 5 ≤ d) (hK : qK S) (hP : qP (zm S)) (hC : qRC S) (hN : qNb S) (hn : 103 ≤ (zn S : Int)) (hb : 0 ≤ b ∧ b ≤ 1) (c1 : 0 ≤ c ∧ c < zm S 37 4) (cg : 0 ≤ g ∧ g ≤ 3) (cw : 18 ≤ w ∧ w ≤ 40) (ct : 3 ≤ t ∧ t ≤ 25) (c3 : zm S 37 16 < 4) : ∃ S2, zD d 131 [vr 3, vi c, vi g, vi w, vi t, vi b] S = some (.inl (some (vi (zm S 37 16))), S2) ∧ zm S2 3 6 = zm S 37 16 + 1 := by
  obtain ⟨e, rfl, h1⟩ := qd h
  have hKb : qK (zbump S) := hK
  obtain ⟨n1, n2⟩ := hN
  have co := s_codeOf_y e S c (by omega) hK hP hC c1
  have ck := s_checkGrade_y e S g (by omega) cg
  obtain ⟨N, hNn⟩ : ∃ N : Int, (zn S : Int) = N := ⟨_, rfl⟩
  obtain ⟨k, hk⟩ : ∃ k, zm S 37 16 = k := ⟨_, rfl⟩
  rw [hk] at n1 n2 c3
  have ci := s_bookInit e (zalloc S 20 0 18) N c (zm S 6 c) g w t b (N + 1) (by omega) (qal_e _ _ _ _ hNn.symm) (by omega) (by rw [qal_n, hNn]) cw ct hb
  obtain ⟨T, hT⟩ : ∃ T, qW (zalloc (zalloc (zalloc S 20 0 18) 11 80 80) 3 (qbl w t) (qbl w t).toNat) (qu (qz (qu (qu (qu (qu (qu (qu (qu (qu (qz (zm (zalloc S 20 0 18)) (N + 1)) N 6 (N + 1)) N 11 1) N 0 c) N 1 (zm S 6 c)) N 2 g) N 3 w) N 4 t) N 5 b) (N + 1 + 1)) N 8 (N + 1 + 1)) = T := ⟨_, rfl⟩
  rw [hT] at ci
  have kT : ∀ x, zk T x = if x = N + 2 then (3, qbl w t) else if x = N + 1 then (11, 80) else if x = N then (20, 0) else zk S x := fun x => by
    rw [← hT, ← hNn, show (zn S : Int) + 2 = (zn S : Int) + 1 + 1 by omega]; rfl
  have mT : ∀ x, x < N → zm T x = zm S x := fun x hx => by
    rw [← hT, qmW, qu_o _ _ _ _ _ (by omega), qz_o _ (by omega), qu_o _ _ _ _ _ (by omega), qu_o _ _ _ _ _ (by omega), qu_o _ _ _ _ _ (by omega), qu_o _ _ _ _ _ (by omega), qu_o _ _ _ _ _ (by omega), qu_o _ _ _ _ _ (by omega), qu_o _ _ _ _ _ (by omega), qu_o _ _ _ _ _ (by omega), qz_o _ (by omega), qal_m, qz_o _ (by omega)]
  have mN : ∀ j, zm T N j = if j = 8 then N + 2 else if j = 5 then b else if j = 4 then t else if j = 3 then w else if j = 2 then g else if j = 1 then zm S 6 c else if j = 0 then c else if j = 11 then 1 else if j = 6 then N + 1 else 0 := fun j => by
    rw [← hT, qmW, qu_row, qz_o _ (by omega), show N + 1 + 1 = N + 2 by omega]
    show (if j = 8 then N + 2 else _) = _
    rw [qu_row, qu_row, qu_row, qu_row, qu_row, qu_row, qu_row, qu_row, qz_o _ (by omega), qal_m, hNn]
    show (if j = 8 then N + 2 else if j = 5 then b else if j = 4 then t else if j = 3 then w else if j = 2 then g else if j = 1 then zm S 6 c else if j = 0 then c else if j = 11 then 1 else if j = 6 then N + 1 else qz (zm S) N N j) = _
    rw [qz_s]
  have mL : ∀ j, zm T (N + 1) j = 0 := fun j => by
    rw [← hT, qmW, qu_o _ _ _ _ _ (by omega), qz_o _ (by omega), qu_o _ _ _ _ _ (by omega), qu_o _ _ _ _ _ (by omega), qu_o _ _ _ _ _ (by omega), qu_o _ _ _ _ _ (by omega), qu_o _ _ _ _ _ (by omega), qu_o _ _ _ _ _ (by omega), qu_o _ _ _ _ _ (by omega), qu_o _ _ _ _ _ (by omega), qz_s]
  have mC : ∀ j, zm T (N + 2) j = 0 := fun j => by
    rw [← hT, qmW, qu_o _ _ _ _ _ (by omega), show N + 1 + 1 = N + 2 by omega, qz_s]
  have nT : (zn T : Int) = N + 3 := by rw [← hT, qnW, qal_n, qal_n, qal_n, hNn]; omega
  have zT : zc T = zc S + 3 := by rw [← hT]; rfl
  have wT : zw T = zw S + 98 + (qbl w t).toNat := by
    rw [← hT]
    show zw S + 18 + 80 + (qbl w t).toNat = _
    omega
  have hKT : qK T := qK_g hK (by omega) fun x hx => by rw [kT, if_neg (by omega), if_neg (by omega), if_neg (by omega)]
  have kN : zk T N = (20, 0) := by rw [kT, if_neg (by omega), if_neg (by omega), if_pos rfl]
  have e3 : zm T 3 = zm S 3 := mT 3 (by omega)
  have x3 : qu (zm T) 8 k N 3 = zm S 3 := by rw [qu_o _ _ _ _ _ (by decide), e3]
  have s6 : qu (qu (zm T) 8 k N) 3 6 (k + 1) 3 6 = k + 1 := qu_s _ _ _ _
  have p5 : zm S 3 5 = 8 := P_3_5 hP
  have cls : zD (e + 1) 131 [vr 3, vi c, vi g, vi w, vi t, vi b] S = some (.inl (some (vi k)), qW T (qu (qu (zm T) 8 k N) 3 6 (k + 1))) := by
    simp (config := { maxSteps := 2000000 }) (disch := first | omega | (simp only [K_3 hK, K_8 hKT, K_3 hKT, p5, n1, hNn, kN, x3, qb_in, qkW, qmW, qnW, true_and, and_true, or_self, true_or, or_true, and_self]; done) | (simp only [K_3 hK, K_8 hKT, K_3 hKT, p5, n1, hNn, kN, x3, qb_in, qkW, qmW, qnW, true_and, and_true, or_self, true_or, or_true, and_self]; omega)) only [zD_131, b131_0, b131_5, b131_11, b131_17, b131_23, b131_29, b131_36, b131_47, b131_55, b131_66, b131_83, b131_90, b131_106, qcall_l, qcall_r, qretn_l, qJ_s, qJ_n, qV0, qEx, ↓qif0, ↓zchk_pos, ↓reduceIte, qput, qWW, qmW, qkW, qnW, K_3 hK, K_8 hKT, K_3 hKT, p5, n1, co, ck, hNn, if_neg (show ¬ w < 18 by omega), if_neg (show ¬ 40 < w by omega), if_neg (show ¬ t < 3 by omega), if_neg (show ¬ 25 < t by omega), if_pos c3, ci, kN, x3, s6, q32, show k + 1 - 1 = k by omega]
  rw [hk]
  exact ⟨_, cls, s6⟩
/-- what a first call leaves -/
def hQz (n : Int) (V S : zS) : Prop := qG5 V S ∧ (∀ j, (j = 2 ∨ j = 4 ∨ j = 16 ∨ j = 50 ∨ j = 65 ∨ j = 76) → j ≠ n → zm S 37 j = zm V 37 j) ∧ zm S 39 = zm V 39
theorem hQz_c {n : Int} {V : zS} (S T : zS) (h : hQz n V S) (h1 : zc T ≤ zc S) (h2 : zw T ≤ zw S) : hQz n V (zrst S T) := ⟨qG5_c S T h.1 h1 h2, h.2⟩
theorem hQz_0 {n : Int} {V : zS} (hV : qHC V) (v : Int) : hQz n V (zbump (qW V (qu (zm V) 37 0 v))) := ⟨q5_0 hV v, fun j j0 _ => by show qu (zm V) 37 0 v 37 j = _; exact qu_i _ _ _ _ _ (by omega), by show qu (zm V) 37 0 v 39 = _; exact qu_o _ _ _ _ _ (by decide)⟩
theorem z0_118 (e : Nat) (he : 300 ≤ e) {V : zS} (hV : qHC V) : qUs vi (hQz 4 V) (zD e 118 [vr 3] V) (zD e 208 [vr 37]) qpsK := by
  obtain ⟨⟨⟨⟨hK, hP, hL, hn⟩, ⟨hT, hC, hR, hk⟩, hPo, hY⟩, hBB⟩, hYC, hFc⟩ := id hV
  exact qUs_n (qUn_n (q_codeH e V (by omega) hK hP hC hn) (fun S2 q => qGw_k q.2.2 hn fun j => by omega) (fun S2 q => by obtain ⟨m2, rfl, f⟩ := q; exact ⟨qFq_1 hC f, fun _ _ => rfl⟩) (fun S2 q => ⟨q5_code hV q.1 q.2.1 q.2.2, fun j j0 j1 => q.2.2.2.2.2.2 37 j (by omega) (by omega), funext fun j => q.2.2.2.2.2.2 39 j (by omega) (by omega)⟩)
    (fun S2 q => by
      obtain ⟨m2, rfl, f⟩ := q
      exact ⟨q5_fx hV f, fun j j0 j1 => f 37 j (qns hC (by decide) (by unfold qscf; omega)), funext fun j => f 39 j (qns hC (by decide) (by unfold qscf; omega))⟩))
theorem z0_141 (e : Nat) (he : 300 ≤ e) {V : zS} (hV : qHC V) (g : Int) : qUs vi (hQz 76 V) (zD e 141 [vr 3, vi g] V) (zD e 290 [vr 37, vi g]) qpsA := by
  obtain ⟨⟨⟨⟨hK, hP, hL, hn⟩, ⟨hT, hC, hR, hk⟩, hPo, hY⟩, hBB⟩, hYC, hFc⟩ := id hV
  exact qUs_n (q_reader e V g (hQz 76 V) (by omega) hK hP hPo.2.2.2.2.1.1 hn (hQz_0 hV) fun S2 g0 g2 h6 n2 c2 w2 hk o o3 o11 o14 o37 o76 o90 oN oN1 => ⟨q5_reader hV g g0 g2 h6 n2 c2 w2 hk o o3 o11 o14 o37 o76 o90 oN oN1, fun j j0 j1 => o37 j (by omega) j1, o 39 (by omega) (by decide) (by decide) (by decide) (by decide) (by decide)⟩)
theorem z0_131 (e : Nat) (he : 300 ≤ e) {V : zS} (hV : qHC V) (h50 : zm V 37 50 < zm V 37 16) (c g w t b : Int) (hb : 0 ≤ b ∧ b ≤ 1) : qUs vi (hQz 16 V) (zD e 131 [vr 3, vi c, vi g, vi w, vi t, vi b] V) (zD e 253 [vr 37, vi c, vi g, vi w, vi t, vi b]) qps3 := by
  obtain ⟨⟨⟨⟨hK, hP, hL, hn⟩, ⟨hT, hC, hR, hk⟩, hPo, hY⟩, hBB⟩, hYC, hFc⟩ := id hV
  exact qUs_n (q_book e V c g w t b (hQz 16 V) (by omega) hK hP hC hY.1 hn hb (hQz_0 hV) fun S2 c0 c1 g0 g3 w0 w1 t0 t1 h4 n2 c2 w2 hk o o3 o6 o8 o37 o16 o49 o50 o51 o52 o53 oN oN1 oN2 => ⟨q5_book hV h50 c g w t b hb c0 c1 g0 g3 w0 w1 t0 t1 h4 n2 c2 w2 hk o o3 o6 o8 o37 o16 o49 o50 o51 o52 o53 oN oN2, fun j j0 j1 => o37 j (by omega) j1, o 39 (by omega) (by decide) (by decide) (by decide) (by decide) (by decide)⟩)
/-- one such call in both houses -/
theorem h_st {V W : zS} (h : hY V W) {n k i : Int} {e y y' : Nat} {as : List zV} {ps : Nat → Int} (c1 : zC1 y = true) (c2 : zC2 y' = true) (ha : hN as) (uV : qUs vi (hQz n V) (zD e y (vr 3 :: as) V) (zD e y' (vr 37 :: as)) ps) (uW : qUs vi (hQz n W) (zD e y (vr 3 :: as) W) (zD e y' (vr 37 :: as)) ps)
    (rV : ∃ V1, zD e y (vr 3 :: as) V = some (.inl (some (vi k)), V1) ∧ zm V1 3 i = k + 1) (rW : ∃ W1, zD e y (vr 3 :: as) W = some (.inl (some (vi k)), W1) ∧ zm W1 3 i = k + 1) :
    ∃ V2 W2, hS e y as (.inl (some (vi k))) V V2 ∧ hS e y as (.inl (some (vi k))) W W2 ∧ hY V2 W2 ∧ hQz n V V2 ∧ (hCt V V2 ∧ hCt W W2) ∧ zm V2 3 i = k + 1 := by
  obtain ⟨⟨Z, a, b', hh⟩, hV, hW, hg⟩ := id h
  obtain ⟨V1, r1, i1⟩ := rV
  obtain ⟨W1, r2, -⟩ := rW
  obtain ⟨o, o', V1', W1', V2, W2, ⟨y1, y2⟩, al, ⟨s1, s2⟩, ⟨q1, q2⟩, g2, -, -, fr⟩ := h_un (g := vi) hh hV hW hg (fun S q => q.1.1.1) (fun S q => q.1.1.1) hQz_c hQz_c c1 c2 ha (fun v => trivial) uV uW
  rw [r1] at y1
  rw [r2] at y2
  cases y1
  cases y2
  have n3 := (h_seen hh hV c1 ha (o := .inl (some (vi k))) trivial r1).2.2.2.1
  exact ⟨V2, W2, s1, s2, h.go s1 s2 q1.1.1.1 q2.1.1.1 g2, q1, ⟨⟨q1.1.1.2.1, q1.1.1.2.2⟩, q2.1.1.2.1, q2.1.1.2.2⟩, by rw [fr 3 (by omega) (by omega)]; exact i1⟩
