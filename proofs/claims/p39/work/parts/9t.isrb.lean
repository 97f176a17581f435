/-! Formulas of the law are read back. -/
def fOK (V : zS) (x : qTree) : Prop := qff1 (zm V 38) (zm V 37 2) = -1 ∧ qPx (qsy (zm V 38) (zm V 37 2)) 0 0 0 0 qNl (zm V 37 2) x ∧ qwf x ∧ qsz x ≤ 23
theorem fOK_D {V V2 : zS} {x : qTree} (h : fOK V x) (d : hD V V2) : fOK V2 x := by
  unfold fOK
  rw [d.2.2.1 38 (Or.inl (Or.inr (Or.inr (by decide)))), d.2.2.1 37 (Or.inl (Or.inr (Or.inr (by decide))))]
  exact h
theorem w_128 (e : Nat) (S : zS) (x : qTree) (w : Int) (he : 191 ≤ e) (hS : qHC S) (hw2 : w = 0 ∨ w = 1) (hx : fOK S x) : ∃ m, zD (e + 1) 128 [vr 3, vi w] S = some (.inl (some (vi (qpr w x).length)), qW S m) := by
  obtain ⟨⟨⟨⟨hK, hP, hL, hn⟩, ⟨hT, hC, hR, hk⟩, hPo, hY⟩, hBB⟩, hYC, hFc⟩ := id hS
  obtain ⟨hf, hx, wx, hz⟩ := hx
  have hw : 0 ≤ w ∧ w ≤ 1 := by omega
  have cw := s_checkWhich_y e S w (by omega) hw
  obtain ⟨m1, r1, a1, a2, q1⟩ := s_writeFormula_y e S w x (by omega) hK hP hL hT hw2 hf hx wx hz
  have hP1 := qFq_P hC hP q1
  have hl := qpr_l w x wx
  have g := a2.1
  refine ⟨m1, ?_⟩
  simp (config := { maxSteps := 2000000 }) (disch := first | omega | (simp only [K_3 hK, K_23 hK, P_3_16 hP, P_3_16 hP1, qb_in, qkW, qmW, qnW, true_and, and_true, or_self, true_or, or_true, and_self]; done) | (simp only [K_3 hK, K_23 hK, P_3_16 hP, P_3_16 hP1, qb_in, qkW, qmW, qnW, true_and, and_true, or_self, true_or, or_true, and_self]; omega)) only [zD_128, b128_0, b128_4, b128_9, qcall_l, qcall_r, qretn_l, qJ_s, qJ_n, qV0, qEx, ↓qif0, ↓zchk_pos, ↓reduceIte, qput, qWW, qmW, qkW, qnW, K_3 hK, K_23 hK, P_3_16 hP, P_3_16 hP1, cw, r1, g]
theorem w_129 (e : Nat) (S : zS) (x : qTree) (w : Int) (he : 191 ≤ e) (hS : qHC S) (hw2 : w = 0 ∨ w = 1) (hx : fOK S x) (i : Int) (h0 : ¬ i < 0) : ∃ m, zD (e + 1) 129 [vr 3, vi w, vi i] S = some (.inl (some (vi (if 0 ≤ i ∧ i < ((qpr w x).length : Int) then qnth (qpr w x) i else -1))), qW S m) := by
  obtain ⟨⟨⟨⟨hK, hP, hL, hn⟩, ⟨hT, hC, hR, hk⟩, hPo, hY⟩, hBB⟩, hYC, hFc⟩ := id hS
  obtain ⟨hf, hx, wx, hz⟩ := hx
  have hw : 0 ≤ w ∧ w ≤ 1 := by omega
  have cw := s_checkWhich_y e S w (by omega) hw
  obtain ⟨m1, r1, a1, a2, q1⟩ := s_writeFormula_y e S w x (by omega) hK hP hL hT hw2 hf hx wx hz
  have hP1 := qFq_P hC hP q1
  have hl := qpr_l w x wx
  have fc := s_fmCell e (qW S m1) 23 i (qpr w x) (by omega) (qFk_23 hK) (qFp_23 hP1) a2 (by omega)
  refine ⟨m1, ?_⟩
  simp (config := { maxSteps := 2000000 }) (disch := first | omega | (simp only [K_3 hK, K_23 hK, P_3_16 hP, P_3_16 hP1, qb_in, qkW, qmW, qnW, true_and, and_true, or_self, true_or, or_true, and_self]; done) | (simp only [K_3 hK, K_23 hK, P_3_16 hP, P_3_16 hP1, qb_in, qkW, qmW, qnW, true_and, and_true, or_self, true_or, or_true, and_self]; omega)) only [zD_129, b129_0, b129_4, b129_8, b129_18, b129_23, b129_31, qcall_l, qcall_r, qretn_l, qJ_s, qJ_n, qV0, qEx, ↓qif0, ↓zchk_pos, ↓reduceIte, qput, qWW, qmW, qkW, qnW, K_3 hK, K_23 hK, P_3_16 hP, P_3_16 hP1, cw, if_neg h0, r1, fc]
theorem w_130 (e : Nat) (S : zS) (x : qTree) (w : Int) (he : 191 ≤ e) (hS : qHC S) (hw2 : w = 0 ∨ w = 1) (hx : fOK S x) : ∃ m, zD (e + 1) 130 [vr 3, vi w] S = some (.inl (some (vi 1)), qW S m) := by
  obtain ⟨⟨⟨⟨hK, hP, hL, hn⟩, ⟨hT, hC, hR, hk⟩, hPo, hY⟩, hBB⟩, hYC, hFc⟩ := id hS
  obtain ⟨hf, hx, wx, hz⟩ := hx
  have hw : 0 ≤ w ∧ w ≤ 1 := by omega
  have cw := s_checkWhich_y e S w (by omega) hw
  obtain ⟨m1, r1, a1, a2, q1⟩ := s_writeFormula_y e S w x (by omega) hK hP hL hT hw2 hf hx wx hz
  have hP1 := qFq_P hC hP q1
  have hl := qpr_l w x wx
  have hH : qHC S := hS
  have hL1 := qFq_L hC hL q1
  obtain ⟨m3, r3, b1, b2, b3⟩ := s_readCellsOf e (qW S m1) w x (by omega) hK (qFp_23 hP1) (qFp_30 hP1) hL1 hw2 wx hz a2
  have r3 : zD e 55 [vr 30, vr 23, vi w] (qW S m1) = some (.inl (some (vi 1)), qW S m3) := r3
  have q3 : qFq S m3 := fun a j q => by
    rw [← q1 a j q]
    have q : ¬ qscf a j := fun z => q (Or.inl z)
    unfold qscf at q
    by_cases c : a = 30
    · subst c
      exact b3 j (by omega) (by omega) (by omega) (by omega) (by omega)
    · rw [b2 a (by omega)]
      rfl
  have hP3 := qFq_P hC hP q3
  have e23 : m3 23 = m1 23 := b2 23 (by decide)
  have e25 : m3 25 = m1 25 := b2 25 (by decide)
  have a23 : qHo m3 23 x := by
    obtain ⟨g1, g2, g3, g4⟩ := a1
    refine ⟨qFp_23 hP3, by rw [e23]; exact g2, by rw [e23]; exact g3, ?_⟩
    rw [e23]
    exact qcr_f (b := qsz x) (fun a i h1 h2 _ => by rw [b2 a (by omega)]; rfl) x wx _ g3.2 g4
  have sm := s_areSameNodes S m3 (qsz x) (qsz x) hK (qFp_30 hP3) (qFp_23 hP3) b1.2.1 a23.2.1 (by omega) (by omega) x wx (e - 1) 0 (m3 30 9) (m3 23 9) (by omega) (Int.le_refl 0) (by omega) b1.2.2.1 a23.2.2.1 b1.2.2.2 a23.2.2.2
  obtain ⟨f, rfl, hf1⟩ := qd (show 1 + 1 ≤ e by omega)
  rw [Nat.add_sub_cancel] at sm
  have st : zD (f + 1) 69 [vr 30, vr 23] (qW S m3) = some (.inl (some (vi 1)), qW S m3) := by
    simp (config := { maxSteps := 2000000 }) (disch := first | omega | (simp only [K_30 hK, K_23 hK, qb_in, qkW, qmW, qnW, true_and, and_true, or_self, true_or, or_true, and_self]; done) | (simp only [K_30 hK, K_23 hK, qb_in, qkW, qmW, qnW, true_and, and_true, or_self, true_or, or_true, and_self]; omega)) only [zD_69, b69_0, b69_14, qcall_l, qcall_r, qretn_l, qJ_s, qJ_n, qV0, qEx, ↓qif0, ↓zchk_pos, ↓reduceIte, qput, qWW, qmW, qkW, qnW, K_30 hK, K_23 hK, sm, Int.reduceLE, true_and, and_self]
  have p16 : m1 3 16 = 23 := P_3_16 hP1
  have p17 : m1 3 17 = 30 := P_3_17 hP1
  have t16 : m3 3 16 = 23 := P_3_16 hP3
  have t17 : m3 3 17 = 30 := P_3_17 hP3
  refine ⟨m3, ?_⟩
  rcases hw2 with rfl | rfl
  · simp (config := { maxSteps := 2000000 }) (disch := first | omega | (simp only [K_3 hK, K_23 hK, P_3_16 hP, K_23 hK, K_30 hK, p16, p17, t16, t17, qb_in, qkW, qmW, qnW, true_and, and_true, or_self, true_or, or_true, and_self]; done) | (simp only [K_3 hK, K_23 hK, P_3_16 hP, K_23 hK, K_30 hK, p16, p17, t16, t17, qb_in, qkW, qmW, qnW, true_and, and_true, or_self, true_or, or_true, and_self]; omega)) only [zD_130, b130_0, b130_4, b130_9, b130_22, b130_26, b130_27, b130_30, b130_33, b130_44, b130_47, b130_51, b130_52, qcall_l, qcall_r, qretn_l, qJ_s, qJ_n, qV0, qEx, ↓qif0, ↓zchk_pos, ↓reduceIte, qput, qWW, qmW, qkW, qnW, K_3 hK, K_23 hK, P_3_16 hP, K_23 hK, K_30 hK, cw, r1, p16, p17, r3, t16, t17, st, Int.reduceEq, Int.reduceLE, true_and, and_self]
  · simp (config := { maxSteps := 2000000 }) (disch := first | omega | (simp only [K_3 hK, K_23 hK, P_3_16 hP, K_23 hK, K_30 hK, p16, p17, t16, t17, qb_in, qkW, qmW, qnW, true_and, and_true, or_self, true_or, or_true, and_self]; done) | (simp only [K_3 hK, K_23 hK, P_3_16 hP, K_23 hK, K_30 hK, p16, p17, t16, t17, qb_in, qkW, qmW, qnW, true_and, and_true, or_self, true_or, or_true, and_self]; omega)) only [zD_130, b130_0, b130_4, b130_9, b130_22, b130_26, b130_27, b130_30, b130_33, b130_44, b130_47, b130_51, b130_52, qcall_l, qcall_r, qretn_l, qJ_s, qJ_n, qV0, qEx, ↓qif0, ↓zchk_pos, ↓reduceIte, qput, qWW, qmW, qkW, qnW, K_3 hK, K_23 hK, P_3_16 hP, K_23 hK, K_30 hK, cw, r1, p16, p17, r3, t16, t17, st, Int.reduceEq, Int.reduceLE, true_and, and_self]
theorem w_130n (e : Nat) (S : zS) (he : 191 ≤ e) (hS : qHC S) (hf : ¬ qff1 (zm S 38) (zm S 37 2) = -1) : zD (e + 1) 130 [vr 3, vi 0] S = some (.inr 1, zbump S) := by
  obtain ⟨⟨⟨⟨hK, hP, hL, hn⟩, ⟨hT, hC, hR, hk⟩, hPo, hY⟩, hBB⟩, hYC, hFc⟩ := id hS
  obtain ⟨w, hw0⟩ : ∃ w : Int, w = 0 := ⟨0, rfl⟩
  have hw : 0 ≤ w ∧ w ≤ 1 := by omega
  have cw := s_checkWhich_y e S w (by omega) hw
  have r1 := s_writeFormula_n e S w (by omega) hK hP hT hf
  rw [← hw0]
  simp (config := { maxSteps := 2000000 }) (disch := first | omega | (simp only [K_3 hK, qb_in, qkW, qmW, qnW, true_and, and_true, or_self, true_or, or_true, and_self]; done) | (simp only [K_3 hK, qb_in, qkW, qmW, qnW, true_and, and_true, or_self, true_or, or_true, and_self]; omega)) only [zD_130, b130_0, b130_4, b130_9, b130_22, b130_26, b130_27, b130_30, b130_33, b130_44, b130_47, b130_51, b130_52, qcall_l, qcall_r, qretn_l, qJ_s, qJ_n, qV0, qEx, ↓qif0, ↓zchk_pos, ↓reduceIte, qput, qWW, qmW, qkW, qnW, K_3 hK, cw, r1]
theorem w_127 (e : Nat) (S : zS) (he : 5 ≤ e) (hS : qHC S) : zD (e + 1) 127 [vr 3] S = some (.inl (some (vi (qff1 (zm S 38) (zm S 37 2)))), S) := by
  obtain ⟨⟨⟨⟨hK, hP, hL, hn⟩, ⟨hT, hC, hR, hk⟩, hPo, hY⟩, hBB⟩, hYC, hFc⟩ := id hS
  have r := s_faultF e S (by omega) hK hP hT
  simp (config := { maxSteps := 2000000 }) (disch := first | omega | (simp only [K_3 hK, K_4 hK, P_3_0 hP, P_3_0 hP, qb_in, qkW, qmW, qnW, true_and, and_true, or_self, true_or, or_true, and_self]; done) | (simp only [K_3 hK, K_4 hK, P_3_0 hP, P_3_0 hP, qb_in, qkW, qmW, qnW, true_and, and_true, or_self, true_or, or_true, and_self]; omega)) only [zD_127, b127_0, b127_7, qcall_l, qcall_r, qretn_l, qJ_s, qJ_n, qV0, qEx, ↓qif0, ↓zchk_pos, ↓reduceIte, qput, qWW, qmW, qkW, qnW, K_3 hK, K_4 hK, P_3_0 hP, P_3_0 hP, r]
/-- brackets in pairs, and cells -/
def bo (c : Int) : Int := if c = 35 then 1 else if c = 28 then -1 else 0
theorem bo_r (c : Int) : -1 ≤ bo c ∧ bo c ≤ 1 := by
  unfold bo
  by_cases a : c = 35
  · rw [if_pos a]; decide
  · by_cases b : c = 28
    · rw [if_neg a, if_pos b]; decide
    · rw [if_neg a, if_neg b]; decide
def br_ : Int → List Int → Int → Prop
  | o, [], o' => o' = o
  | o, c :: L, o' => (0 < c ∧ c < 64) ∧ 0 ≤ o + bo c ∧ br_ (o + bo c) L o'
theorem br_a : ∀ {L K : List Int} {o o1 o2 : Int}, br_ o L o1 → br_ o1 K o2 → br_ o (L ++ K) o2
  | [], K, o, o1, o2, h, g => by
    obtain rfl : o1 = o := h
    exact g
  | c :: L, K, o, o1, o2, h, g => ⟨h.1, h.2.1, br_a h.2.2 g⟩
def bal (L : List Int) : Prop := ∀ o, 0 ≤ o → br_ o L o
theorem bal_a {L K : List Int} (h : bal L) (g : bal K) : bal (L ++ K) := fun o ho => br_a (h o ho) (g o ho)
theorem bal_1 {c : Int} (h0 : 0 < c ∧ c < 64) (h1 : c ≠ 35) (h2 : c ≠ 28) : bal [c] := fun o ho => by
  have e : bo c = 0 := by
    unfold bo
    rw [if_neg h1, if_neg h2]
  refine ⟨h0, by omega, ?_⟩
  show o = o + bo c
  omega
theorem bal_b {L : List Int} (h : bal L) (b : Int) : bal (qbk b L) := by
  unfold qbk
  by_cases c : b = 0
  · rw [if_pos c]
    exact h
  · rw [if_neg c]
    intro o ho
    have h1 : br_ o [35] (o + 1) := ⟨by decide, by show 0 ≤ o + 1; omega, rfl⟩
    have h2 : br_ (o + 1) [28] o := ⟨by decide, by show 0 ≤ o + 1 + -1; omega, by show o = o + 1 + -1; omega⟩
    exact br_a (br_a h1 (h (o + 1) (by omega))) h2
theorem bal_l (l : Int) (h : 0 ≤ l ∧ l < 26) : bal [qlc l] := by
  have k : ∀ n : Nat, n < 26 → (0 < qlc (n : Int) ∧ qlc (n : Int) < 64) ∧ qlc (n : Int) ≠ 35 ∧ qlc (n : Int) ≠ 28 := by decide +kernel
  obtain ⟨a, b, c⟩ := k l.toNat (by omega)
  rw [show ((l.toNat : Nat) : Int) = l by omega] at a b c
  exact bal_1 a b c
theorem bal_d (d : Int) (h : 0 ≤ d ∧ d ≤ 9) : bal [qdc d] := by
  unfold qdc
  by_cases c : d = 0
  · rw [if_pos c]
    exact bal_l 9 (by decide)
  · rw [if_neg c]
    exact bal_l (d - 1) (by omega)
theorem bal_dl (z : Int) (h : 0 ≤ z) : bal (qdl z) := by
  unfold qdl
  by_cases c1 : z < 100
  · rw [if_pos c1]
    exact bal_d _ (by omega)
  · by_cases c2 : z < 1000
    · rw [if_neg c1, if_pos c2]
      exact bal_a (L := [qdc (z / 10 % 10)]) (bal_d _ (by omega)) (bal_d _ (by omega))
    · by_cases c3 : z < 10000
      · rw [if_neg c1, if_neg c2, if_pos c3]
        exact bal_a (L := [qdc (z / 100 % 10)]) (bal_d _ (by omega)) (bal_a (L := [qdc (z / 10 % 10)]) (bal_d _ (by omega)) (bal_d _ (by omega)))
      · rw [if_neg c1, if_neg c2, if_neg c3]
        exact bal_a (L := [qdc (z / 1000 % 10)]) (bal_d _ (by omega)) (bal_a (L := [qdc (z / 100 % 10)]) (bal_d _ (by omega)) (bal_a (L := [qdc (z / 10 % 10)]) (bal_d _ (by omega)) (bal_d _ (by omega))))
theorem bal_cs (o : Int) : bal [qcs o] := by
  unfold qcs
  by_cases a : o = 43
  · rw [if_pos a]; exact bal_1 (by decide) (by decide) (by decide)
  · by_cases b : o = 45
    · rw [if_neg a, if_pos b]; exact bal_1 (by decide) (by decide) (by decide)
    · by_cases c : o = 46
      · rw [if_neg a, if_neg b, if_pos c]; exact bal_1 (by decide) (by decide) (by decide)
      · by_cases d : o = 47
        · rw [if_neg a, if_neg b, if_neg c, if_pos d]; exact bal_1 (by decide) (by decide) (by decide)
        · rw [if_neg a, if_neg b, if_neg c, if_neg d]; exact bal_1 (by decide) (by decide) (by decide)
theorem bal_pr : ∀ x, qwf x → bal (qpr 0 x) := q_ind (fun z hz => by
  unfold qza at hz
  rw [qpr_a]
  by_cases c : z < 0
  · rw [if_pos c]
    exact bal_l _ (by omega)
  · rw [if_neg c]
    exact bal_a (L := [60]) (bal_1 (by decide) (by decide) (by decide)) (bal_dl z (by omega))) fun o l r _ _ _ h1 h2 => by
  rw [qpr_o, if_neg (fun q => absurd q.1 (by decide)), if_neg (fun q => absurd q.1 (by decide))]
  exact bal_a (bal_a (bal_b h1 _) (bal_cs _)) (bal_b h2 _)
theorem pr_0 : ∀ x, qwf x → 0 < (qpr 0 x).length := q_ind (fun z hz => by
  rw [qpr_a]
  by_cases c : z < 0
  · rw [if_pos c]
    exact Nat.one_pos
  · rw [if_neg c]
    exact Nat.succ_pos _) fun o l r _ _ _ h1 h2 => by
  rw [qpr_o, if_neg (fun q => absurd q.1 (by decide)), if_neg (fun q => absurd q.1 (by decide)), List.length_append, List.length_append]
  show 0 < _ + 1 + _
  omega
theorem getD_mid (c : Int) (L : List Int) : ∀ K : List Int, (K ++ c :: L).getD K.length 0 = c
  | [] => rfl
  | _ :: K => getD_mid c L K
/-- one question answered -/
def hK1 (e y : Nat) (as : List zV) (v : Int) (V : zS) : Prop := ∃ V2, hS e y as (.inl (some (vi v))) V V2 ∧ hD V V2 ∧ zc V2 = zc V ∧ zw V2 = zw V
theorem hK1_q {V W : zS} (hx : ∃ Z a b, hH a b Z V W) (hV : qHC V) {e y : Nat} {as : List zV} {v : Int} (q : hA1 false e y as) (r : ∃ m, zD e y (vr 3 :: as) V = some (.inl (some (vi v)), qW V m)) : hK1 e y as v V := by
  obtain ⟨m, r⟩ := r
  obtain ⟨o, V1, V2, r1, al1, s1, d1⟩ := q V W hx hV
  rw [r] at r1
  cases r1
  rcases al1 with ⟨v', -, a1, a2⟩ | ⟨⟨x, a1, -⟩, -⟩
  · exact ⟨V2, s1, d1, a1, a2⟩
  · cases a1
theorem l_rbl (e : Nat) (he : 300 ≤ e) (x : qTree) (n : Int) (hn : ((qpr 0 x).length : Int) = n) (hn2 : n ≤ 160) : ∀ (L K : List Int) (o o' : Int) (V : zS), qHC V → fOK V x → qpr 0 x = K ++ L → 0 ≤ o → o ≤ K.length → br_ o L o' → (∃ Z a b W, hH a b Z V W) →
    ∃ V2, hD V V2 ∧ (zc V2 = zc V ∧ zw V2 = zw V) ∧ ∀ Z a b W, hH a b Z V W → ∃ Z1, zF_354 (e + 1) 79 [vr a, vu, vi o, vi n, vi 1, vi K.length, vu] [] Z = zF_354 (e + 1) 154 [vr a, vu, vi o', vi n, vi 1, vi n, vu] [] Z1 ∧ hM a b W V V2 Z Z1
  | [], K, o, o', V, hV, hf, hl, h0, hk, hb, hx => by
    obtain rfl : o' = o := hb
    have e1 : (K.length : Int) = n := by rw [← hn, hl, List.append_nil]
    refine ⟨V, hD.rf hV, ⟨rfl, rfl⟩, fun Z a b W hh => ⟨Z, ?_, hM.rf hh⟩⟩
    rw [e1, b354_79, if_neg (by omega)]
  | c :: L, K, o, o', V, hV, hf, hl, h0, hk, hb, hx => by
    obtain ⟨⟨c0, c1⟩, b1, hb⟩ := hb
    have hlen : n = (K.length : Int) + 1 + L.length := by rw [← hn, hl, List.length_append, List.length_cons]; omega
    obtain ⟨Z0, a0, b0, W0, hh0⟩ := hx
    obtain ⟨V1, s1, d1, z1, z2⟩ : hK1 (e + 1) 129 [vi 0, vi K.length] c V := by
      refine hK1_q ⟨Z0, a0, b0, hh0⟩ hV (a_129 (e + 1) (by omega) 0 K.length) ?_
      obtain ⟨m, r⟩ := w_129 e V x 0 (by omega) hV (Or.inl rfl) hf K.length (by omega)
      refine ⟨m, ?_⟩
      rw [if_pos (by omega)] at r
      rw [show qnth (qpr 0 x) (K.length : Int) = c by unfold qnth; rw [Int.toNat_natCast, hl]; exact getD_mid c L K] at r
      exact r
    have bor := bo_r c
    have e1 : ((K ++ [c]).length : Int) = (K.length : Int) + 1 := by rw [List.length_append]; rfl
    obtain ⟨Z9, -, hh9, -⟩ := s1 Z0 a0 b0 W0 hh0
    obtain ⟨V2, d2, ⟨z3, z4⟩, g⟩ := l_rbl e he x n hn hn2 L (K ++ [c]) (o + bo c) o' V1 d1.1 (fOK_D hf d1) (by rw [hl, List.append_assoc]; rfl) b1 (by rw [e1]; omega) hb ⟨Z9, a0, b0, W0, hh9⟩
    refine ⟨V2, d1.tr d2, ⟨z3.trans z1, z4.trans z2⟩, fun Z a b W hh => ?_⟩
    obtain ⟨Z1, r1, m1⟩ := s1.m hh
    obtain ⟨Z2, r2, m2⟩ := g Z1 a b W m1.1
    refine ⟨Z2, ?_, m1.tr m2⟩
    rw [e1] at r2
    have p97 : zF_354 (e + 1) 97 [vr a, vu, vi o, vi n, vu, vi K.length, vu] [vi c] Z1 = zF_354 (e + 1) 123 [vr a, vu, vu, vi n, vu, vi K.length, vi c] [vi (bo c), vi o] Z1 := by
      unfold bo
      by_cases c35 : c = 35
      · rw [b354_97, if_pos c35, b354_107, if_pos c35]
      · by_cases c28 : c = 28
        · rw [b354_97, if_neg c35, b354_111, if_pos c28, b354_118, if_neg c35, if_pos c28]
        · rw [b354_97, if_neg c35, b354_111, if_neg c28, b354_122, if_neg c35, if_neg c28]
    rw [b354_79, if_pos (by omega), b354_85, if_neg (by decide), b354_90, zchk_pos (by rw [hh.ka hV]), r1, qcall_l, qJ_s, p97, b354_123, show z32 (o + bo c) = o + bo c from q32 (by omega), if_neg (by omega), b354_129, if_pos c0, b354_134, if_pos c1, b354_141, b354_146, show z32 ((K.length : Int) + 1) = (K.length : Int) + 1 from q32 (by omega), r2]
/-- the law's question of formulas is always answered with yes -/
theorem h_isrb (e : Nat) (he : 300 ≤ e) {V W : zS} (hx : ∃ Z a b, hH a b Z V W) (hV : qHC V) : ∃ V2, hS (e + 2) 354 [] (.inl (some (vi 1))) V V2 ∧ hD V V2 ∧ zc V2 ≤ zc V + 1 ∧ zw V2 ≤ zw V + 6 := by
  have r127 := w_127 e V (by omega) hV
  have s127 := (h_pure (as := []) (by rfl) (by rfl) trivial (o := .inl (some (vi (qff1 (zm V 38) (zm V 37 2))))) trivial r127).2
  have hT := hV.1.1.1.2
  by_cases hf : qff1 (zm V 38) (zm V 37 2) = -1
  · obtain ⟨x, x1, x2, x3⟩ := q_formula _ _ hV.1.1.2.1.1.2.1 hf
    have f0 : fOK V x := ⟨hf, x1, x2, x3⟩
    have hl := qpr_l 0 x x2
    have hp := pr_0 x x2
    obtain ⟨n, hn⟩ : ∃ n : Int, ((qpr 0 x).length : Int) = n := ⟨_, rfl⟩
    obtain ⟨V1, s1, d1, z1, w1⟩ := hK1_q hx hV (a_128 (e + 1) (by omega) 0) (w_128 e V x 0 (by omega) hV (Or.inl rfl) f0)
    have f1 := fOK_D f0 d1
    have hx1 := s1.x hx
    obtain ⟨V2, s2, d2, z2, w2⟩ := hK1_q hx1 d1.1 (a_130 (e + 1) (by omega) 0) (w_130 e V1 x 0 (by omega) d1.1 (Or.inl rfl) f1)
    have f2 := fOK_D f1 d2
    have hx2 := s2.x hx1
    obtain ⟨V3, s3, d3, z3, w3⟩ := hK1_q hx2 d2.1 (a_130 (e + 1) (by omega) 1) (w_130 e V2 x 1 (by omega) d2.1 (Or.inr rfl) f2)
    have f3 := fOK_D f2 d3
    have hx3 := s3.x hx2
    obtain ⟨V4, s4, d4, z4, w4⟩ : hK1 (e + 1) 129 [vi 0, vi n] (-1) V3 := by
      refine hK1_q hx3 d3.1 (a_129 (e + 1) (by omega) 0 n) ?_
      obtain ⟨m, r⟩ := w_129 e V3 x 0 (by omega) d3.1 (Or.inl rfl) f3 n (by omega)
      rw [if_neg (by omega)] at r
      exact ⟨m, r⟩
    have f4 := fOK_D f3 d4
    obtain ⟨Z4, a4, b4, hh4⟩ := s4.x hx3
    obtain ⟨V5, d5, ⟨z5, w5⟩, g⟩ := l_rbl e he x n hn (by omega) (qpr 0 x) [] 0 0 V4 d4.1 f4 rfl (Int.le_refl 0) (Int.le_refl 0) (bal_pr x x2 0 (Int.le_refl 0)) ⟨Z4, a4, b4, W, hh4⟩
    rw [hn] at s1
    refine ⟨V5, fun Z a b W hh => ?_, (((d1.tr d2).tr d3).tr d4).tr d5, by omega, by omega⟩
    obtain ⟨Z0, r0, m0⟩ := s127.m hh
    obtain ⟨Z1, r1, m1⟩ := s1.m m0.1
    obtain ⟨Z2, r2, m2⟩ := s2.m m1.1
    obtain ⟨Z3, r3, m3⟩ := s3.m m2.1
    obtain ⟨Z4, r4, m4⟩ := s4.m m3.1
    obtain ⟨Z5, r5, m5⟩ := g Z4 a b W m4.1
    refine ⟨Z5, ?_, ((((m0.tr m1).tr m2).tr m3).tr m4).tr m5⟩
    have r5 : zF_354 (e + 1) 79 [vr a, vu, vi 0, vi n, vi 1, vi 0, vu] [] Z4 = zF_354 (e + 1) 154 [vr a, vu, vi 0, vi n, vi 1, vi n, vu] [] Z5 := r5
    rw [zDr_354, b354_0, zchk_pos (by rw [hh.ka hV]), r0, qcall_l, qJ_s, b354_4, if_pos hf, b354_31, zchk_pos (by rw [m0.1.ka hV]), r1, qcall_l, qJ_s, b354_38, zchk_pos (by rw [m1.1.ka d1.1]), r2, qcall_l, qJ_s, b354_44, if_neg (by decide), b354_47, zchk_pos (by rw [m2.1.ka d2.1]), r3, qcall_l, qJ_s, b354_52, if_neg (by decide), b354_55, if_pos (by omega), b354_59, zchk_pos (by rw [m3.1.ka d3.1]), r4, qcall_l, qJ_s, b354_65, if_pos rfl, b354_69, b354_74, r5, b354_154, if_neg (by decide), b354_159, if_pos rfl, b354_163, b354_168, zchk_pos (by decide)]
  · have r130 := w_130n (e - 1) V (by omega) hV hf
    rw [show e - 1 + 1 = e by omega] at r130
    obtain ⟨o, V1, V2, q1, al1, s1, d1⟩ := a_130 e (by omega) 0 V W hx hV
    rw [r130] at q1
    cases q1
    have cc : zc V2 ≤ zc V + 1 ∧ zw V2 ≤ zw V + 6 := by
      rcases al1 with ⟨v, -, a1, a2⟩ | ⟨-, a1, a2⟩ <;> omega
    refine ⟨V2, fun Z a b W hh => ?_, d1, cc.1, cc.2⟩
    obtain ⟨Z0, r0, m0⟩ := s127.m hh
    obtain ⟨Z1, r1, m1⟩ := l_d13 e 0 0 0 0 (Or.inr ⟨1, rfl, Or.inr (Or.inl rfl)⟩) s1 Z0 a b W m0.1 (m0.1.ka hV)
    refine ⟨Z1, ?_, m0.tr m1⟩
    rw [zDr_354, b354_0, zchk_pos (by rw [hh.ka hV]), r0, qcall_l, qJ_s, b354_4, if_neg hf, b354_10, r1, qcall_l, qJ_s, b354_20, if_pos (show res (.inr 1) = -9999999 from rfl), b354_25, b354_30, zchk_pos (by decide)]
