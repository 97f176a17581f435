/-! Books: what they are made of. -/
def qmp (t : Int) : Int := Int.tdiv 240 (t - 1) + 1
theorem qmp_n : ∀ k : Nat, k < 23 → 11 ≤ qmp ((k : Int) + 3) ∧ qmp ((k : Int) + 3) ≤ 121 ∧ qmp ((k : Int) + 3) * ((k : Int) + 3) ≤ 363 ∧ 0 ≤ qmp ((k : Int) + 3) * ((k : Int) + 3) ∧ 240 ≤ (qmp ((k : Int) + 3)) * ((k : Int) + 2) := by decide +kernel
theorem qmp_r {t : Int} (h : 3 ≤ t ∧ t ≤ 25) : 11 ≤ qmp t ∧ qmp t ≤ 121 ∧ qmp t * t ≤ 363 ∧ 0 ≤ qmp t * t ∧ 240 ≤ qmp t * (t - 1) := by
  have := qmp_n (t - 3).toNat (by omega)
  rw [show (((t - 3).toNat : Nat) : Int) = t - 3 by omega, show t - 3 + 3 = t by omega, show t - 3 + 2 = t - 1 by omega] at this
  exact this
/-- how many cells a book has room for -/
def qbl (w t : Int) : Int := qmp t * t * w
theorem qbl_r {w t : Int} (h : 3 ≤ t ∧ t ≤ 25) (hw : 18 ≤ w ∧ w ≤ 40) : 0 ≤ qbl w t ∧ qbl w t ≤ 14520 := by
  obtain ⟨h1, h2, h3, h4, -⟩ := qmp_r h
  unfold qbl
  refine ⟨Int.mul_nonneg h4 (by omega), ?_⟩
  have := Int.mul_le_mul h3 hw.2 (by omega) (by omega)
  omega
def qBs (S : zS) (x i : Int) : Prop :=
  (zk S x = (20, 0) ∧ zk S (x + 1) = (11, 80) ∧ zk S (x + 2) = (3, qbl (zm S 51 i) (zm S 52 i)) ∧ 103 ≤ x ∧ x + 3 ≤ zn S) ∧
  (zm S x 0 = zm S 49 i ∧ zm S x 1 = zm S 6 (zm S 49 i) ∧ 0 ≤ zm S 49 i ∧ zm S 49 i < zm S 37 4) ∧ (zm S x 2 = zm S 50 i ∧ 0 ≤ zm S 50 i ∧ zm S 50 i ≤ 3) ∧ (zm S x 3 = zm S 51 i ∧ 18 ≤ zm S 51 i ∧ zm S 51 i ≤ 40) ∧ (zm S x 4 = zm S 52 i ∧ 3 ≤ zm S 52 i ∧ zm S 52 i ≤ 25) ∧ (zm S x 5 = zm S 53 i ∧ 0 ≤ zm S 53 i ∧ zm S 53 i ≤ 1) ∧
  zm S x 6 = x + 1 ∧ (zm S x 7 = zm S 54 i ∧ 0 ≤ zm S 54 i ∧ zm S 54 i ≤ 80) ∧ zm S x 8 = x + 2 ∧ (zm S x 14 = zm S 62 i ∧ 0 ≤ zm S 62 i ∧ zm S 62 i ≤ 1000) ∧ (zm S x 15 = zm S 63 i ∧ 0 ≤ zm S 63 i ∧ zm S 63 i ≤ 63)
def qYb (S : zS) : Prop := qNb S ∧ (∀ i, 0 ≤ i → i < zm S 37 16 → qBs S (zm S 8 i) i) ∧ (∀ i k, 0 ≤ i → i < k → k < zm S 37 16 → zm S 8 i ≠ zm S 8 k) ∧ ∀ i, zm S 37 16 ≤ i → i < 4 → zm S 54 i = 0 ∧ zm S 62 i = 0 ∧ zm S 63 i = 0
theorem qYb_h {S : zS} (h : qYb S) : qBh S := by
  obtain ⟨⟨n1, n2⟩, b, -⟩ := h
  refine ⟨n1, n2, fun i i1 i2 => ?_⟩
  obtain ⟨⟨a1, -, -, a4, a5⟩, ⟨-, c1, c2, c3⟩, -, -, -, -, -, ⟨s7, -⟩, -⟩ := b i i1 i2
  exact ⟨a1, ⟨a4, by omega⟩, c1, ⟨c2, c3⟩, s7⟩
def qfB (S : zS) (x j : Int) : Prop := x = 8 ∨ (49 ≤ x ∧ x ≤ 54) ∨ x = 62 ∨ x = 63 ∨ (x = 3 ∧ j = 6) ∨ (x = 37 ∧ j = 16) ∨ (103 ≤ x ∧ zk S x = (20, 0) ∧ (j ≤ 8 ∨ j = 14 ∨ j = 15))
theorem qYb_k {S S' : zS} {E : Int → Int → Prop} (h : qYb S) (a : qAg S S' E) (hn : 103 ≤ (zn S : Int)) (he : ∀ x j, qfB S x j → ¬ E x j) (h4 : zm S 37 4 ≤ zm S' 37 4) (h6 : ∀ c, 0 ≤ c → c < zm S 37 4 → zm S' 6 c = zm S 6 c) : qYb S' := by
  obtain ⟨w0, w1, w2, w3⟩ := h
  have e16 : zm S' 37 16 = zm S 37 16 := a.2 37 16 (by omega) (he _ _ (by unfold qfB; omega))
  have e36 : zm S' 3 6 = zm S 3 6 := a.2 3 6 (by omega) (he _ _ (by unfold qfB; omega))
  have r8 : zm S' 8 = zm S 8 := qAg_r a (by omega) fun j => he _ _ (by unfold qfB; omega)
  have r49 : zm S' 49 = zm S 49 := qAg_r a (by omega) fun j => he _ _ (by unfold qfB; omega)
  have r50 : zm S' 50 = zm S 50 := qAg_r a (by omega) fun j => he _ _ (by unfold qfB; omega)
  have r51 : zm S' 51 = zm S 51 := qAg_r a (by omega) fun j => he _ _ (by unfold qfB; omega)
  have r52 : zm S' 52 = zm S 52 := qAg_r a (by omega) fun j => he _ _ (by unfold qfB; omega)
  have r53 : zm S' 53 = zm S 53 := qAg_r a (by omega) fun j => he _ _ (by unfold qfB; omega)
  have r54 : zm S' 54 = zm S 54 := qAg_r a (by omega) fun j => he _ _ (by unfold qfB; omega)
  have r62 : zm S' 62 = zm S 62 := qAg_r a (by omega) fun j => he _ _ (by unfold qfB; omega)
  have r63 : zm S' 63 = zm S 63 := qAg_r a (by omega) fun j => he _ _ (by unfold qfB; omega)
  unfold qYb qNb
  rw [e16, e36, r8, r54, r62, r63]
  refine ⟨w0, fun i i1 i2 => ?_, w2, w3⟩
  obtain ⟨⟨a1, a2, a3, a4, a5⟩, ⟨b1, b2, b3, b4⟩, c2, c3, c4, c5, c6, c7, c8, c14, c15⟩ := w1 i i1 i2
  have g1 := a.1.1
  have ex : ∀ j, j ≤ 8 ∨ j = 14 ∨ j = 15 → zm S' (zm S 8 i) j = zm S (zm S 8 i) j := fun j hj => a.2 _ _ (by omega) (he _ _ (Or.inr (Or.inr (Or.inr (Or.inr (Or.inr (Or.inr ⟨a4, a1, hj⟩)))))))
  unfold qBs
  rw [r49, r50, r51, r52, r53, r54, r62, r63, ex 0 (by omega), ex 1 (by omega), ex 2 (by omega), ex 3 (by omega), ex 4 (by omega), ex 5 (by omega), ex 6 (by omega), ex 7 (by omega), ex 8 (by omega), ex 14 (by omega), ex 15 (by omega), h6 _ b3 b4]
  exact ⟨⟨by rw [a.1.2 _ (by omega)]; exact a1, by rw [a.1.2 _ (by omega)]; exact a2, by rw [a.1.2 _ (by omega)]; exact a3, a4, by omega⟩, ⟨b1, b2, b3, by omega⟩, c2, c3, c4, c5, c6, c7, c8, c14, c15⟩
theorem qYb_f {S : zS} {m : Int → Int → Int} (hC : qRC S) (h : qYb S) (hf : qFq S m) (hn : 103 ≤ (zn S : Int)) : qYb (qW S m) := by
  have lo : ∀ x j : Int, x ≤ 102 → ¬ qscf x j → ¬ qscr S x j := fun x j hx hs => qns hC hx hs
  have e4 : zm (qW S m) 37 4 = zm S 37 4 := hf 37 4 (lo _ _ (by decide) (by unfold qscf; omega))
  refine qYb_k h (qAg_f hf) hn (fun x j q => ?_) (by omega) fun c _ _ => hf 6 c (lo _ _ (by decide) (by unfold qscf; omega))
  unfold qfB at q
  by_cases c : 103 ≤ x ∧ zk S x = (20, 0)
  · exact qns_k hC c.1 (by rw [c.2]; decide) (by rw [c.2]; decide) (by rw [c.2]; decide)
  · rcases q with q | q | q | q | q | q | q
    · exact lo x j (by omega) (by unfold qscf; omega)
    · exact lo x j (by omega) (by unfold qscf; omega)
    · exact lo x j (by omega) (by unfold qscf; omega)
    · exact lo x j (by omega) (by unfold qscf; omega)
    · exact lo x j (by omega) (by unfold qscf; omega)
    · exact lo x j (by omega) (by unfold qscf; omega)
    · exact absurd ⟨q.1, q.2.1⟩ c
/-! Secret. -/
theorem q_secret (d : Nat) (S : zS) (b t w : Int) (Q : zS → Prop) (h : 4 ≤ d) (hK : qK S) (hP : qP (zm S)) (hb : qYb S) (hQ0 : ∀ v, Q (zbump (qW S (qu (zm S) 37 0 v))))
    (hQ : ∀ o, 0 ≤ b → b < zm S 37 16 → 0 ≤ t → t ≤ 1000 → 0 ≤ w → w ≤ 63 → Q (qW S (qu (qu (qu (qu (qu (qu (zm S) (zm S 8 b) 14 t) (zm S 8 b) 15 w) 102 0 o) 37 0 0) 62 b t) 63 b w))) :
    qUn vi qid Q S (zD d 145 [vr 3, vi b, vi t, vi w] S) (zD d 297 [vr 37, vi b, vi t, vi w]) qpsD := by
  by_cases c1 : 0 ≤ b ∧ b < zm S 37 16
  · obtain ⟨e, rfl, he⟩ := qd h
    have hKb : qK (zbump S) := hK
    have bo := s_bookOf_y e S b (by omega) hK hP hb.1 c1
    obtain ⟨⟨a1, a2, a3, a4, a5⟩, -, -, -, -, -, -, -, -, c14, c15⟩ := hb.2.1 b c1.1 c1.2
    have hn4 := hb.1.2
    by_cases c2 : (0 ≤ t ∧ t ≤ 1000) ∧ (0 ≤ w ∧ w ≤ 63)
    · obtain ⟨c2, c3⟩ := c2
      generalize hx : zm S 8 b = x at *
      refine Or.inl ⟨zm S 62 b, qW S (qu (qu (zm S) x 14 t) x 15 w), ?_, qKs_w S _ (by rw [qu_o _ _ _ _ _ (by omega), qu_o _ _ _ _ _ (by omega)]), ?_⟩
      · simp (config := { maxSteps := 2000000 }) (disch := first | omega | (simp only [K_3 hK, a1, qb_in, qkW, qmW, qnW, true_and, and_true, or_self, true_or, or_true, and_self]; done) | (simp only [K_3 hK, a1, qb_in, qkW, qmW, qnW, true_and, and_true, or_self, true_or, or_true, and_self]; omega)) only [zD_145, b145_0, b145_5, b145_11, b145_18, b145_22, b145_28, b145_39, b145_60, qcall_l, qcall_r, qretn_l, qJ_s, qJ_n, qV0, qEx, ↓qif0, ↓zchk_pos, ↓reduceIte, qput, qWW, qmW, qkW, qnW, K_3 hK, bo, a1, c14.1, if_neg (show ¬ t < 0 by omega), if_neg (show ¬ 1000 < t by omega), if_neg (show ¬ w < 0 by omega), if_neg (show ¬ 63 < w by omega)]
      · refine ⟨_, ?_, ?_, ?_, ?_, hQ (qid (zm S 62 b)) c1.1 c1.2 c2.1 c2.2 c3.1 c3.2⟩
        · obtain ⟨M, hM⟩ : ∃ M, qu (qu (qu (zm S) x 14 t) x 15 w) 102 0 (qid (zm S 62 b)) = M := ⟨_, rfl⟩
          have hq : qo (qW S (qu (qu (zm S) x 14 t) x 15 w)) (qid (zm S 62 b)) = qW S M := by rw [← hM]; rfl
          rw [hq, hM]
          have mx : ∀ y, y ≠ x → y ≠ 102 → M y = zm S y := fun y y1 y2 => by rw [← hM, qu_o _ _ _ _ _ y2, qu_o _ _ _ _ _ y1, qu_o _ _ _ _ _ y1]
          have m37 : M 37 = zm S 37 := mx 37 (by omega) (by decide)
          have i1 := r_in e t 0 1000 (qW S M) (by omega)
          rw [qb_p c2] at i1
          have i2 := r_in e w 0 63 (qW S M) (by omega)
          rw [qb_p c3] at i2
          have ib := r_isbook_y e (qW S M) b (by omega) hK (by show 0 ≤ M 37 16 ∧ M 37 16 ≤ 4; rw [m37]; exact hn4) (by show 0 ≤ b ∧ b < M 37 16; rw [m37]; exact c1)
          have hd := r_holds e (qW S M) 0 (by omega) hK
          rw [qb_p rfl] at hd
          have hd : zD e 182 [vr 37, vi 0] (qW S M) = some (.inl (some (vi 1)), qW S (qu M 37 0 0)) := hd
          have p30 : qu M 37 0 0 37 30 = 62 := by rw [qu_i _ _ _ _ _ (by decide), m37]; exact P_37_30 hP
          have p31 : qu M 37 0 0 37 31 = 63 := by rw [qu_i _ _ _ _ _ (by decide), m37]; exact P_37_31 hP
          have m62 : qu M 37 0 0 62 b = zm S 62 b := by rw [qu_o _ _ _ _ _ (by decide), mx 62 (by omega) (by decide)]
          have q37 : qu (qu M 37 0 0) 62 b t 37 = qu M 37 0 0 37 := qu_o _ _ _ _ _ (by decide)
          simp (config := { maxSteps := 2000000 }) (disch := first | omega | (simp only [K_37 hK, K_62 hK, K_63 hK, p30, p31, q37, qb_in, qkW, qmW, qnW, true_and, and_true, or_self, true_or, or_true, and_self]; done) | (simp only [K_37 hK, K_62 hK, K_63 hK, p30, p31, q37, qb_in, qkW, qmW, qnW, true_and, and_true, or_self, true_or, or_true, and_self]; omega)) only [zD_297, b297_0, b297_8, b297_11, b297_18, b297_21, b297_25, b297_26, b297_34, b297_37, b297_41, b297_46, b297_50, b297_51, b297_54, b297_57, b297_59, b297_74, qcall_l, qcall_r, qretn_l, qJ_s, qJ_n, qV0, qEx, ↓qif0, ↓zchk_pos, ↓reduceIte, qput, qWW, qmW, qkW, qnW, K_37 hK, K_62 hK, K_63 hK, i1, i2, ib, hd, p30, p31, m62, q37, Int.reduceEq]
        · exact qKs_w S _ (by rw [qu_o _ _ _ _ _ (by decide), qu_o _ _ _ _ _ (by decide), qu_o _ _ _ _ _ (by decide), qu_o _ _ _ _ _ (by decide), qu_o _ _ _ _ _ (by omega), qu_o _ _ _ _ _ (by omega)])
        · show qu (qu (qu (qu (qu (qu (zm S) x 14 t) x 15 w) 102 0 (qid (zm S 62 b))) 37 0 0) 62 b t) 63 b w 37 0 = 0
          rw [qu_o _ _ _ _ _ (by decide), qu_o _ _ _ _ _ (by decide), qu_s]
        · show qu (qu (qu (qu (qu (qu (zm S) x 14 t) x 15 w) 102 0 (qid (zm S 62 b))) 37 0 0) 62 b t) 63 b w 102 0 = _
          rw [qu_o _ _ _ _ _ (by decide), qu_o _ _ _ _ _ (by decide), qu_o _ _ _ _ _ (by decide), qu_s]
    · refine qUn_no ⟨0, ?_, ?_, by decide⟩ hQ0
      · by_cases d1 : t < 0
        · simp (config := { maxSteps := 2000000 }) (disch := first | omega | (simp only [K_3 hK, qb_in, qkW, qmW, qnW, true_and, and_true, or_self, true_or, or_true, and_self]; done) | (simp only [K_3 hK, qb_in, qkW, qmW, qnW, true_and, and_true, or_self, true_or, or_true, and_self]; omega)) only [zD_145, b145_0, b145_5, b145_11, b145_18, b145_22, b145_28, b145_39, b145_60, qcall_l, qcall_r, qretn_l, qJ_s, qJ_n, qV0, qEx, ↓qif0, ↓zchk_pos, ↓reduceIte, qput, qWW, qmW, qkW, qnW, K_3 hK, bo, if_pos d1]
        · by_cases d2 : 1000 < t
          · simp (config := { maxSteps := 2000000 }) (disch := first | omega | (simp only [K_3 hK, qb_in, qkW, qmW, qnW, true_and, and_true, or_self, true_or, or_true, and_self]; done) | (simp only [K_3 hK, qb_in, qkW, qmW, qnW, true_and, and_true, or_self, true_or, or_true, and_self]; omega)) only [zD_145, b145_0, b145_5, b145_11, b145_18, b145_22, b145_28, b145_39, b145_60, qcall_l, qcall_r, qretn_l, qJ_s, qJ_n, qV0, qEx, ↓qif0, ↓zchk_pos, ↓reduceIte, qput, qWW, qmW, qkW, qnW, K_3 hK, bo, if_neg d1, if_pos d2]
          · by_cases d3 : w < 0
            · simp (config := { maxSteps := 2000000 }) (disch := first | omega | (simp only [K_3 hK, qb_in, qkW, qmW, qnW, true_and, and_true, or_self, true_or, or_true, and_self]; done) | (simp only [K_3 hK, qb_in, qkW, qmW, qnW, true_and, and_true, or_self, true_or, or_true, and_self]; omega)) only [zD_145, b145_0, b145_5, b145_11, b145_18, b145_22, b145_28, b145_39, b145_60, qcall_l, qcall_r, qretn_l, qJ_s, qJ_n, qV0, qEx, ↓qif0, ↓zchk_pos, ↓reduceIte, qput, qWW, qmW, qkW, qnW, K_3 hK, bo, if_neg d1, if_neg d2, if_pos d3]
            · simp (config := { maxSteps := 2000000 }) (disch := first | omega | (simp only [K_3 hK, qb_in, qkW, qmW, qnW, true_and, and_true, or_self, true_or, or_true, and_self]; done) | (simp only [K_3 hK, qb_in, qkW, qmW, qnW, true_and, and_true, or_self, true_or, or_true, and_self]; omega)) only [zD_145, b145_0, b145_5, b145_11, b145_18, b145_22, b145_28, b145_39, b145_60, qcall_l, qcall_r, qretn_l, qJ_s, qJ_n, qV0, qEx, ↓qif0, ↓zchk_pos, ↓reduceIte, qput, qWW, qmW, qkW, qnW, K_3 hK, bo, if_neg d1, if_neg d2, if_neg d3, if_pos (show 63 < w by omega)]
      · have ib := r_isbook_y e (zbump S) b (by omega) hK hn4 c1
        have hd := r_refuse e S 2 (by omega) hK (by decide)
        have i1 := r_in e t 0 1000 (zbump S) (by omega)
        have i2 := r_in e w 0 63 (zbump S) (by omega)
        by_cases d1 : 0 ≤ t ∧ t ≤ 1000
        · rw [qb_p d1] at i1
          rw [qb_n (fun z => c2 ⟨d1, z⟩)] at i2
          simp (config := { maxSteps := 2000000 }) (disch := first | omega | (simp only [K_37 hKb, qb_in, qkW, qmW, qnW, true_and, and_true, or_self, true_or, or_true, and_self]; done) | (simp only [K_37 hKb, qb_in, qkW, qmW, qnW, true_and, and_true, or_self, true_or, or_true, and_self]; omega)) only [zD_297, b297_0, b297_8, b297_11, b297_18, b297_21, b297_25, b297_26, b297_34, b297_37, b297_41, b297_46, b297_50, b297_51, b297_54, b297_57, b297_59, b297_74, qcall_l, qcall_r, qretn_l, qJ_s, qJ_n, qV0, qEx, ↓qif0, ↓zchk_pos, ↓reduceIte, qput, qWW, qmW, qkW, qnW, K_37 hKb, i1, i2, ib, hd, Int.reduceEq]
          rfl
        · rw [qb_n d1] at i1
          simp (config := { maxSteps := 2000000 }) (disch := first | omega | (simp only [K_37 hKb, qb_in, qkW, qmW, qnW, true_and, and_true, or_self, true_or, or_true, and_self]; done) | (simp only [K_37 hKb, qb_in, qkW, qmW, qnW, true_and, and_true, or_self, true_or, or_true, and_self]; omega)) only [zD_297, b297_0, b297_8, b297_11, b297_18, b297_21, b297_25, b297_26, b297_34, b297_37, b297_41, b297_46, b297_50, b297_51, b297_54, b297_57, b297_59, b297_74, qcall_l, qcall_r, qretn_l, qJ_s, qJ_n, qV0, qEx, ↓qif0, ↓zchk_pos, ↓reduceIte, qput, qWW, qmW, qkW, qnW, K_37 hKb, i1, ib, hd, Int.reduceEq]
          rfl
  · exact qUn_no (q_secret_n d S b t w (by omega) hK hb.1 c1) hQ0
