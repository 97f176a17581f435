/-! The class reads symbols as the tree that they are. -/
theorem qsy_l {s : Int → Int} {n p : Int} (h : qsy s n p ≠ 32) : 0 ≤ p ∧ p < n := by
  by_cases c : 0 ≤ p ∧ p < n
  · exact c
  · exact absurd (qsy_n c) h
theorem qPr_i (s : Int → Int) (n fld : Int) : ∀ (f md : Nat) (dep p : Int) (l : qTree) (q : Int) (x : qTree), qPr (qsy s n) fld f md dep p l q x → 0 ≤ p → p ≤ n → (p ≤ q ∧ q ≤ n) ∧ ((md = 1 ∨ md = 3) → qwf l → qwf x) ∧ (¬ (md = 1 ∨ md = 3) → qwf x) ∧ ((md = 1 ∨ md = 3) → qsz l ≤ qsz x) ∧ 1 ≤ qsz x + (if md = 1 ∨ md = 3 then 1 else 0) := by
  intro f
  induction f with
  | zero => intro md dep p l q x h; exact absurd h id
  | succ f ih =>
    intro md dep p l q x h hp hn
    match md, h with
    | 0, h =>
      obtain ⟨h1, q1, x1, h2, h3⟩ := h
      obtain ⟨a1, a2, a3, a4, a5⟩ := ih _ _ _ _ _ _ h2 hp hn
      obtain ⟨b1, b2, b3, b4, b5⟩ := ih _ _ _ _ _ _ h3 (by omega) (by omega)
      have a3 := a3 (by decide)
      have b2 := b2 (by decide) a3
      have b4 := b4 (by decide)
      rw [if_neg (by decide)] at a5 ⊢
      exact ⟨by omega, fun z => absurd z (by decide), fun _ => b2, fun z => absurd z (by decide), by omega⟩
    | 1, h =>
      rcases h with ⟨h1, rfl, rfl⟩ | ⟨h1, q1, x1, h2, h3⟩
      · exact ⟨by omega, fun _ z => z, fun z => absurd (Or.inl rfl) z, fun _ => Nat.le_refl _, by rw [if_pos (Or.inl rfl)]; omega⟩
      · have hy := qsy_l (s := s) (n := n) (p := p) (by omega)
        obtain ⟨a1, a2, a3, a4, a5⟩ := ih _ _ _ _ _ _ h2 (by omega) (by omega)
        obtain ⟨b1, b2, b3, b4, b5⟩ := ih _ _ _ _ _ _ h3 (by omega) (by omega)
        have b4 := b4 (by decide)
        rw [qsz_o] at b4
        refine ⟨by omega, fun _ z => b2 (by decide) (by rw [qwf_o]; exact ⟨by omega, z, a3 (by decide)⟩), fun z => absurd (Or.inl rfl) z, fun _ => by omega, by rw [if_pos (Or.inl rfl)]; omega⟩
    | 2, h =>
      obtain ⟨q1, x1, h2, h3⟩ := h
      obtain ⟨a1, a2, a3, a4, a5⟩ := ih _ _ _ _ _ _ h2 hp hn
      obtain ⟨b1, b2, b3, b4, b5⟩ := ih _ _ _ _ _ _ h3 (by omega) (by omega)
      have a3 := a3 (by decide)
      have b2 := b2 (by decide) a3
      have b4 := b4 (by decide)
      rw [if_neg (by decide)] at a5 ⊢
      exact ⟨by omega, fun z => absurd z (by decide), fun _ => b2, fun z => absurd z (by decide), by omega⟩
    | 3, h =>
      rcases h with ⟨h1, rfl, rfl⟩ | ⟨h1, q1, x1, h2, h3⟩
      · exact ⟨by omega, fun _ z => z, fun z => absurd (Or.inr rfl) z, fun _ => Nat.le_refl _, by rw [if_pos (Or.inr rfl)]; omega⟩
      · have hy := qsy_l (s := s) (n := n) (p := p) (by omega)
        obtain ⟨a1, a2, a3, a4, a5⟩ := ih _ _ _ _ _ _ h2 (by omega) (by omega)
        obtain ⟨b1, b2, b3, b4, b5⟩ := ih _ _ _ _ _ _ h3 (by omega) (by omega)
        have b4 := b4 (by decide)
        rw [qsz_o] at b4
        refine ⟨by omega, fun _ z => b2 (by decide) (by rw [qwf_o]; exact ⟨by omega, z, a3 (by decide)⟩), fun z => absurd (Or.inr rfl) z, fun _ => by omega, by rw [if_pos (Or.inr rfl)]; omega⟩
    | 4, h =>
      obtain ⟨h0, q1, x1, h2, h⟩ := h
      obtain ⟨a1, a2, a3, a4, a5⟩ := ih _ _ _ _ _ _ h2 hp hn
      have a3 := a3 (by decide)
      rw [if_neg (by decide)] at a5 ⊢
      rcases h with ⟨h1, h3, x2, h4, h5⟩ | ⟨h1, h3, q2, x2, h4, h5, h6, h7⟩ | ⟨h1, h3, h4, h5⟩
      · have hy := qsy_l (s := s) (n := n) (p := q1) (by omega)
        obtain ⟨b1, b2, b3, b4, b5⟩ := ih _ _ _ _ _ _ h4 (by omega) (by omega)
        rw [h5]
        exact ⟨by omega, fun z => absurd z (by decide), fun _ => by rw [qwf_o]; exact ⟨by decide, a3, b3 (by decide)⟩, fun z => absurd z (by decide), by rw [qsz_o]; omega⟩
      · have hy := qsy_l (s := s) (n := n) (p := q1) (by omega)
        obtain ⟨b1, b2, b3, b4, b5⟩ := ih _ _ _ _ _ _ h4 (by omega) (by omega)
        have hy2 := qsy_l (s := s) (n := n) (p := q2) (by omega)
        rw [h7]
        exact ⟨by omega, fun z => absurd z (by decide), fun _ => by rw [qwf_o]; exact ⟨by decide, a3, b3 (by decide)⟩, fun z => absurd z (by decide), by rw [qsz_o]; omega⟩
      · rw [h5]
        exact ⟨by omega, fun z => absurd z (by decide), fun _ => a3, fun z => absurd z (by decide), by omega⟩
    | md + 5, h =>
      have hm : ¬ (md + 5 = 1 ∨ md + 5 = 3) := by omega
      rw [if_neg hm]
      rcases h with ⟨h1, h2, h3⟩ | ⟨h1, q1, h2, h3, h4⟩ | ⟨h1, q1, x1, q2, x2, h2, h3, h4, h5, h6, h7⟩ | ⟨h1, k, h2, h3, h4, h5, h6, h7⟩
      · have hy := qsy_l (s := s) (n := n) (p := p) (by omega)
        rw [h3]
        exact ⟨by omega, fun z => absurd z hm, fun _ => by rw [qwf_a]; unfold qza; omega, fun z => absurd z hm, by rw [qsz_a]; omega⟩
      · have hy := qsy_l (s := s) (n := n) (p := p) (by omega)
        obtain ⟨a1, a2, a3, a4, a5⟩ := ih _ _ _ _ _ _ h2 (by omega) (by omega)
        have hy2 := qsy_l (s := s) (n := n) (p := q1) (by omega)
        rw [if_neg (by decide)] at a5
        exact ⟨by omega, fun z => absurd z hm, fun _ => a3 (by decide), fun z => absurd z hm, by omega⟩
      · have hy := qsy_l (s := s) (n := n) (p := p) (by omega)
        obtain ⟨a1, a2, a3, a4, a5⟩ := ih _ _ _ _ _ _ h2 (by omega) (by omega)
        have hy2 := qsy_l (s := s) (n := n) (p := q1) (by omega)
        obtain ⟨b1, b2, b3, b4, b5⟩ := ih _ _ _ _ _ _ h4 (by omega) (by omega)
        have hy3 := qsy_l (s := s) (n := n) (p := q2) (by omega)
        rw [h7]
        exact ⟨by omega, fun z => absurd z hm, fun _ => by rw [qwf_o]; exact ⟨by decide, a3 (by decide), b3 (by decide)⟩, fun z => absurd z hm, by rw [qsz_o]; omega⟩
      · have hk := h4 (k - 1) (by omega) (by omega)
        have hy := qsy_l (s := s) (n := n) (p := (if qsy s n p = 35 then p + 1 else p) + (k - 1)) (by omega)
        have hp1 : p ≤ (if qsy s n p = 35 then p + 1 else p) := by split <;> omega
        rw [h7]
        refine ⟨by omega, fun z => absurd z hm, fun _ => by rw [qwf_a]; exact qnv_z _ _ _ ⟨h2, h3⟩ h4, fun z => absurd z hm, by rw [qsz_a]; omega⟩
/-- reading is done -/
def qDn (R : zR) (S : zS) (F : Int) (s : Int → Int) (n fld b : Int) (m : Int → Int → Int) (q b' : Int) (x : qTree) : Prop := ∃ r m', R = some (.inl (some (vi r)), qW S m') ∧ qSt m' F s n fld q b' ∧ (0 ≤ r ∧ r < b') ∧ qcr m' F x r ∧ qFr F b m m'
theorem s_parse (S : zS) (F : Int) (s : Int → Int) (n fld : Int) (hF : qFk S F) (hn : 0 ≤ n ∧ n ≤ 160) (hc : ∀ i, 0 ≤ i → i < n → 0 ≤ s i ∧ s i < 65536) (hfl : fld = 0 ∨ fld = 1) : ∀ (f : Nat),
    (∀ (d : Nat) (dep p q b : Int) (l x : qTree) (m : Int → Int → Int), qPr (qsy s n) fld f 0 dep p l q x → 4 * (41 - dep) + 10 ≤ (d : Int) → 0 ≤ dep → 0 ≤ p → p ≤ n → 0 ≤ b → b + qsz x ≤ 24 → qSt m F s n fld p b → qDn (zD d 62 [vr F, vi dep] (qW S m)) S F s n fld b m q (b + qsz x) x) ∧
    (∀ (e : Nat) (dep p q b lr i : Int) (l x : qTree) (m : Int → Int → Int) (y4 : zV), qPr (qsy s n) fld f 1 dep p l q x → 4 * (41 - dep) + 10 ≤ (e : Int) + 1 → dep ≤ 40 → 0 ≤ dep → 0 ≤ p → p ≤ n → 0 ≤ b → b + (qsz x - qsz l) ≤ 24 → qSt m F s n fld p b → (0 ≤ lr ∧ lr < b) → qcr m F l lr → qwf l → (0 ≤ i ∧ i ≤ p) → qDn (zF_62 e 16 [vr F, vi dep, vi lr, vi i, y4] [] (qW S m)) S F s n fld b m q (b + (qsz x - qsz l)) x) ∧
    (∀ (d : Nat) (dep p q b : Int) (l x : qTree) (m : Int → Int → Int), qPr (qsy s n) fld f 2 dep p l q x → 4 * (41 - dep) + 10 ≤ (d : Int) + 1 → dep ≤ 40 → 0 ≤ dep → 0 ≤ p → p ≤ n → 0 ≤ b → b + qsz x ≤ 24 → qSt m F s n fld p b → qDn (zD d 63 [vr F, vi dep] (qW S m)) S F s n fld b m q (b + qsz x) x) ∧
    (∀ (e : Nat) (dep p q b lr i : Int) (l x : qTree) (m : Int → Int → Int) (y4 : zV), qPr (qsy s n) fld f 3 dep p l q x → 4 * (41 - dep) + 10 ≤ (e : Int) + 2 → dep ≤ 40 → 0 ≤ dep → 0 ≤ p → p ≤ n → 0 ≤ b → b + (qsz x - qsz l) ≤ 24 → qSt m F s n fld p b → (0 ≤ lr ∧ lr < b) → qcr m F l lr → qwf l → (0 ≤ i ∧ i ≤ p) → qDn (zF_63 e 8 [vr F, vi dep, vi lr, vi i, y4] [] (qW S m)) S F s n fld b m q (b + (qsz x - qsz l)) x) ∧
    (∀ (d : Nat) (dep p q b : Int) (l x : qTree) (m : Int → Int → Int), qPr (qsy s n) fld f 4 dep p l q x → 4 * (41 - dep) + 10 ≤ (d : Int) + 2 → 0 ≤ dep → 0 ≤ p → p ≤ n → 0 ≤ b → b + qsz x ≤ 24 → qSt m F s n fld p b → qDn (zD d 64 [vr F, vi dep] (qW S m)) S F s n fld b m q (b + qsz x) x) ∧
    (∀ (d : Nat) (dep p q b : Int) (l x : qTree) (m : Int → Int → Int), qPr (qsy s n) fld f 5 dep p l q x → 4 * (41 - dep) + 10 ≤ (d : Int) + 3 → dep ≤ 40 → 0 ≤ dep → 0 ≤ p → p ≤ n → 0 ≤ b → b + qsz x ≤ 24 → qSt m F s n fld p b → qDn (zD d 65 [vr F, vi dep] (qW S m)) S F s n fld b m q (b + qsz x) x) := by
  have k0 := hF.1
  intro f
  induction f with
  | zero => exact ⟨fun _ _ _ _ _ _ _ _ h => absurd h id, fun _ _ _ _ _ _ _ _ _ _ _ h => absurd h id, fun _ _ _ _ _ _ _ _ h => absurd h id, fun _ _ _ _ _ _ _ _ _ _ _ h => absurd h id, fun _ _ _ _ _ _ _ _ h => absurd h id, fun _ _ _ _ _ _ _ _ h => absurd h id⟩
  | succ f ih =>
    obtain ⟨I0, I1, I2, I3, I4, I5⟩ := ih
    refine ⟨?_, ?_, ?_, ?_, ?_, ?_⟩
    · -- a sum
      intro d dep p q b l x m h hd hdep hp hpn hb hx hs
      obtain ⟨h40, q1, x1, h2, h3⟩ := h
      obtain ⟨e, rfl, -⟩ := qd (show 1 + 1 ≤ d by omega)
      obtain ⟨a1, -, a3, -, a5⟩ := qPr_i s n fld _ _ _ _ _ _ _ h2 hp hpn
      obtain ⟨c1, c2, -, c4, -⟩ := qPr_i s n fld _ _ _ _ _ _ _ h3 (by omega) (by omega)
      have a3 := a3 (by decide)
      have c4 := c4 (by decide)
      obtain ⟨r, m1, r1, s1, b1, t1, f1⟩ := I2 e dep p q1 b qNl x1 m h2 (by omega) h40 hdep hp hpn hb (by omega) hs
      obtain ⟨r', m2, r2, s2, b2, t2, f2⟩ := I1 e dep q1 q (b + qsz x1) r 0 x1 x m1 vu h3 (by omega) h40 hdep (by omega) (by omega) (by omega) (by omega) s1 b1 t1 a3 (by omega)
      rw [show b + (qsz x1 : Int) + (qsz x - qsz x1) = b + qsz x by omega] at s2 b2
      refine ⟨r', m2, ?_, s2, b2, t2, qFr_t f1 f2 (by omega)⟩
      simp (config := { maxSteps := 2000000 }) (disch := first | omega | (simp only [k0, qb_in, qkW, qmW, qnW, true_and, and_true, or_self, true_or, or_true, and_self]; done) | (simp only [k0, qb_in, qkW, qmW, qnW, true_and, and_true, or_self, true_or, or_true, and_self]; omega)) only [zD_62, b62_0, b62_6, b62_8, b62_13, b62_24, b62_28, b62_33, b62_37, b62_42, b62_46, b62_62, b62_67, b62_70, b62_77, qcall_l, qcall_r, qretn_l, qJ_s, qJ_n, qV0, qEx, ↓qif0, ↓zchk_pos, ↓reduceIte, qput, qWW, qmW, qkW, qnW, k0, if_neg (show ¬ 40 < dep by omega), r1]
      exact r2
    · -- a sum goes on
      intro e dep p q b lr i l x m y4 h hd h40 hdep hp hpn hb hx hs hlr hl hwl hi
      have sy := s_symbol e (qW S m) F s n fld p b (by omega) hF hs hp hn.2 hc
      have h1 := hs.2.1
      have h2' := hs.2.2.2.1
      rcases h with ⟨g1, rfl, rfl⟩ | ⟨g1, q1, x1, h2, h3⟩
      · refine ⟨lr, m, ?_, by rw [show b + ((qsz x : Int) - qsz x) = b by omega]; exact hs, by omega, hl, qFr_r _ _ _⟩
        rw [b62_16]
        by_cases c : i < n
        · simp (config := { maxSteps := 2000000 }) (disch := first | omega | (simp only [k0, qb_in, qkW, qmW, qnW, true_and, and_true, or_self, true_or, or_true, and_self]; done) | (simp only [k0, qb_in, qkW, qmW, qnW, true_and, and_true, or_self, true_or, or_true, and_self]; omega)) only [b62_0, b62_6, b62_8, b62_13, b62_24, b62_28, b62_33, b62_37, b62_42, b62_46, b62_62, b62_67, b62_70, b62_77, qcall_l, qcall_r, qretn_l, qJ_s, qJ_n, qV0, qEx, ↓qif0, ↓zchk_pos, ↓reduceIte, qput, qWW, qmW, qkW, qnW, k0, h1, if_pos c, sy, if_neg (show ¬ qsy s n q = 43 from fun z => g1 (Or.inl z)), if_neg (show ¬ qsy s n q = 45 from fun z => g1 (Or.inr z))]
        · simp (config := { maxSteps := 2000000 }) (disch := first | omega | (simp only [k0, qb_in, qkW, qmW, qnW, true_and, and_true, or_self, true_or, or_true, and_self]; done) | (simp only [k0, qb_in, qkW, qmW, qnW, true_and, and_true, or_self, true_or, or_true, and_self]; omega)) only [b62_0, b62_6, b62_8, b62_13, b62_24, b62_28, b62_33, b62_37, b62_42, b62_46, b62_62, b62_67, b62_70, b62_77, qcall_l, qcall_r, qretn_l, qJ_s, qJ_n, qV0, qEx, ↓qif0, ↓zchk_pos, ↓reduceIte, qput, qWW, qmW, qkW, qnW, k0, h1, if_neg c]
      · have hy := qsy_l (s := s) (n := n) (p := p) (by omega)
        obtain ⟨a1, -, a3, -, a5⟩ := qPr_i s n fld _ _ _ _ _ _ _ h2 (by omega) (by omega)
        obtain ⟨c1, c2, -, c4, -⟩ := qPr_i s n fld _ _ _ _ _ _ _ h3 (by omega) (by omega)
        have a3 := a3 (by decide)
        have c4 := c4 (by decide)
        rw [qsz_o] at c4
        rw [if_neg (by decide)] at a5
        have s0 := qSt_2 hs (p + 1)
        obtain ⟨r, m1, r1, s1, b1, t1, f1⟩ := I2 e dep (p + 1) q1 b qNl x1 _ h2 (by omega) h40 hdep (by omega) (by omega) hb (by omega) s0
        have f01 := qFr_t (qFr_2 F b (p + 1) m) f1 (Int.le_refl _)
        have hyr := hc p hp hy.2
        have eyp : qsy s n p = s p := qsy_i hy
        obtain ⟨m2, r2, s2, u2, u3, u4, u5, f2⟩ := s_join e (qW S m1) F s n fld q1 (b + qsz x1) (qsy s n p) lr r (by omega) hF s1 (by omega) (by omega) hlr.1 b1.1
        have tl : qcr m2 F l lr := qcr_f f2.2.2 _ hwl _ (by omega) (qcr_f f01.2.2 _ hwl _ hlr.2 hl)
        have tx : qcr m2 F x1 r := qcr_f f2.2.2 _ a3 _ b1.2 t1
        have hnew : qcr m2 F (qOp (qsy s n p).toNat l x1) (b + qsz x1) := by
          rw [qcr_o, u2, u3, u4, u5]
          exact ⟨by omega, rfl, by omega, by omega, tl, tx⟩
        have hwn : qwf (qOp (qsy s n p).toNat l x1) := by
          rw [qwf_o]
          exact ⟨by omega, hwl, a3⟩
        obtain ⟨r', m3, r3, s3, b3, t3, f3⟩ := I1 e dep q1 q (b + qsz x1 + 1) (b + qsz x1) (i + 1) (qOp (qsy s n p).toNat l x1) x m2 vu h3 hd h40 hdep (by omega) (by omega) (by omega) (by rw [qsz_o]; omega) s2 (by omega) hnew hwn (by omega)
        rw [qsz_o, show b + (qsz x1 : Int) + 1 + (qsz x - ((qsz l + qsz x1 + 1 : Nat) : Int)) = b + (qsz x - qsz l) by omega] at s3 b3
        refine ⟨r', m3, ?_, s3, b3, t3, qFr_t f01 (qFr_t f2 f3 (by omega)) (by omega)⟩
        rw [b62_16]
        by_cases c : qsy s n p = 43
        · rw [c] at r2
          simp (config := { maxSteps := 2000000 }) (disch := first | omega | (simp only [k0, qb_in, qkW, qmW, qnW, true_and, and_true, or_self, true_or, or_true, and_self]; done) | (simp only [k0, qb_in, qkW, qmW, qnW, true_and, and_true, or_self, true_or, or_true, and_self]; omega)) only [b62_0, b62_6, b62_8, b62_13, b62_24, b62_28, b62_33, b62_37, b62_42, b62_46, b62_62, b62_67, b62_70, b62_77, qcall_l, qcall_r, qretn_l, qJ_s, qJ_n, qV0, qEx, ↓qif0, ↓zchk_pos, ↓reduceIte, qput, qWW, qmW, qkW, qnW, k0, h1, h2', if_pos (show i < n by omega), sy, if_pos c, c, q32, r1, r2]
          exact r3
        · have c' : qsy s n p = 45 := by omega
          rw [c'] at r2
          simp (config := { maxSteps := 2000000 }) (disch := first | omega | (simp only [k0, qb_in, qkW, qmW, qnW, true_and, and_true, or_self, true_or, or_true, and_self]; done) | (simp only [k0, qb_in, qkW, qmW, qnW, true_and, and_true, or_self, true_or, or_true, and_self]; omega)) only [b62_0, b62_6, b62_8, b62_13, b62_24, b62_28, b62_33, b62_37, b62_42, b62_46, b62_62, b62_67, b62_70, b62_77, qcall_l, qcall_r, qretn_l, qJ_s, qJ_n, qV0, qEx, ↓qif0, ↓zchk_pos, ↓reduceIte, qput, qWW, qmW, qkW, qnW, k0, h1, h2', if_pos (show i < n by omega), sy, if_neg c, if_pos c', c', Int.reduceEq, q32, r1, r2]
          exact r3
    · -- a product
      intro d dep p q b l x m h hd h40 hdep hp hpn hb hx hs
      obtain ⟨q1, x1, h2, h3⟩ := h
      obtain ⟨e, rfl, -⟩ := qd (show 1 + 1 ≤ d by omega)
      obtain ⟨a1, -, a3, -, a5⟩ := qPr_i s n fld _ _ _ _ _ _ _ h2 hp hpn
      obtain ⟨c1, c2, -, c4, -⟩ := qPr_i s n fld _ _ _ _ _ _ _ h3 (by omega) (by omega)
      have a3 := a3 (by decide)
      have c4 := c4 (by decide)
      obtain ⟨r, m1, r1, s1, b1, t1, f1⟩ := I4 e dep p q1 b qNl x1 m h2 (by omega) hdep hp hpn hb (by omega) hs
      obtain ⟨r', m2, r2, s2, b2, t2, f2⟩ := I3 e dep q1 q (b + qsz x1) r 0 x1 x m1 vu h3 (by omega) h40 hdep (by omega) (by omega) (by omega) (by omega) s1 b1 t1 a3 (by omega)
      rw [show b + (qsz x1 : Int) + (qsz x - qsz x1) = b + qsz x by omega] at s2 b2
      refine ⟨r', m2, ?_, s2, b2, t2, qFr_t f1 f2 (by omega)⟩
      simp (config := { maxSteps := 2000000 }) (disch := first | omega | (simp only [k0, qb_in, qkW, qmW, qnW, true_and, and_true, or_self, true_or, or_true, and_self]; done) | (simp only [k0, qb_in, qkW, qmW, qnW, true_and, and_true, or_self, true_or, or_true, and_self]; omega)) only [zD_63, b63_0, b63_5, b63_16, b63_20, b63_25, b63_29, b63_34, b63_41, b63_45, b63_61, b63_66, b63_69, b63_76, qcall_l, qcall_r, qretn_l, qJ_s, qJ_n, qV0, qEx, ↓qif0, ↓zchk_pos, ↓reduceIte, qput, qWW, qmW, qkW, qnW, k0, r1]
      exact r2
    · -- a product goes on
      intro e dep p q b lr i l x m y4 h hd h40 hdep hp hpn hb hx hs hlr hl hwl hi
      have sy := s_symbol e (qW S m) F s n fld p b (by omega) hF hs hp hn.2 hc
      have h1 := hs.2.1
      have h2' := hs.2.2.2.1
      have h3' := hs.2.2.2.2.1
      rcases h with ⟨g1, rfl, rfl⟩ | ⟨g1, q1, x1, h2, h3⟩
      · refine ⟨lr, m, ?_, by rw [show b + ((qsz x : Int) - qsz x) = b by omega]; exact hs, by omega, hl, qFr_r _ _ _⟩
        rw [b63_8]
        by_cases c : i < n
        · by_cases c2 : qsy s n q = 47
          · have c3 : ¬ fld = 0 := fun z => g1 (Or.inr ⟨c2, z⟩)
            simp (config := { maxSteps := 2000000 }) (disch := first | omega | (simp only [k0, qb_in, qkW, qmW, qnW, true_and, and_true, or_self, true_or, or_true, and_self]; done) | (simp only [k0, qb_in, qkW, qmW, qnW, true_and, and_true, or_self, true_or, or_true, and_self]; omega)) only [b63_0, b63_5, b63_16, b63_20, b63_25, b63_29, b63_34, b63_41, b63_45, b63_61, b63_66, b63_69, b63_76, qcall_l, qcall_r, qretn_l, qJ_s, qJ_n, qV0, qEx, ↓qif0, ↓zchk_pos, ↓reduceIte, qput, qWW, qmW, qkW, qnW, k0, h1, h3', if_pos c, sy, if_neg (show ¬ qsy s n q = 46 from fun z => g1 (Or.inl z)), if_pos c2, if_neg c3]
          · simp (config := { maxSteps := 2000000 }) (disch := first | omega | (simp only [k0, qb_in, qkW, qmW, qnW, true_and, and_true, or_self, true_or, or_true, and_self]; done) | (simp only [k0, qb_in, qkW, qmW, qnW, true_and, and_true, or_self, true_or, or_true, and_self]; omega)) only [b63_0, b63_5, b63_16, b63_20, b63_25, b63_29, b63_34, b63_41, b63_45, b63_61, b63_66, b63_69, b63_76, qcall_l, qcall_r, qretn_l, qJ_s, qJ_n, qV0, qEx, ↓qif0, ↓zchk_pos, ↓reduceIte, qput, qWW, qmW, qkW, qnW, k0, h1, if_pos c, sy, if_neg (show ¬ qsy s n q = 46 from fun z => g1 (Or.inl z)), if_neg c2]
        · simp (config := { maxSteps := 2000000 }) (disch := first | omega | (simp only [k0, qb_in, qkW, qmW, qnW, true_and, and_true, or_self, true_or, or_true, and_self]; done) | (simp only [k0, qb_in, qkW, qmW, qnW, true_and, and_true, or_self, true_or, or_true, and_self]; omega)) only [b63_0, b63_5, b63_16, b63_20, b63_25, b63_29, b63_34, b63_41, b63_45, b63_61, b63_66, b63_69, b63_76, qcall_l, qcall_r, qretn_l, qJ_s, qJ_n, qV0, qEx, ↓qif0, ↓zchk_pos, ↓reduceIte, qput, qWW, qmW, qkW, qnW, k0, h1, if_neg c]
      · have hy := qsy_l (s := s) (n := n) (p := p) (by omega)
        obtain ⟨a1, -, a3, -, a5⟩ := qPr_i s n fld _ _ _ _ _ _ _ h2 (by omega) (by omega)
        obtain ⟨c1, c2, -, c4, -⟩ := qPr_i s n fld _ _ _ _ _ _ _ h3 (by omega) (by omega)
        have a3 := a3 (by decide)
        have c4 := c4 (by decide)
        rw [qsz_o] at c4
        rw [if_neg (by decide)] at a5
        have s0 := qSt_2 hs (p + 1)
        obtain ⟨r, m1, r1, s1, b1, t1, f1⟩ := I4 e dep (p + 1) q1 b qNl x1 _ h2 (by omega) hdep (by omega) (by omega) hb (by omega) s0
        have f01 := qFr_t (qFr_2 F b (p + 1) m) f1 (Int.le_refl _)
        have hyr := hc p hp hy.2
        have eyp : qsy s n p = s p := qsy_i hy
        obtain ⟨m2, r2, s2, u2, u3, u4, u5, f2⟩ := s_join e (qW S m1) F s n fld q1 (b + qsz x1) (qsy s n p) lr r (by omega) hF s1 (by omega) (by omega) hlr.1 b1.1
        have tl : qcr m2 F l lr := qcr_f f2.2.2 _ hwl _ (by omega) (qcr_f f01.2.2 _ hwl _ hlr.2 hl)
        have tx : qcr m2 F x1 r := qcr_f f2.2.2 _ a3 _ b1.2 t1
        have hnew : qcr m2 F (qOp (qsy s n p).toNat l x1) (b + qsz x1) := by
          rw [qcr_o, u2, u3, u4, u5]
          exact ⟨by omega, rfl, by omega, by omega, tl, tx⟩
        have hwn : qwf (qOp (qsy s n p).toNat l x1) := by
          rw [qwf_o]
          exact ⟨by omega, hwl, a3⟩
        obtain ⟨r', m3, r3, s3, b3, t3, f3⟩ := I3 e dep q1 q (b + qsz x1 + 1) (b + qsz x1) (i + 1) (qOp (qsy s n p).toNat l x1) x m2 vu h3 hd h40 hdep (by omega) (by omega) (by omega) (by rw [qsz_o]; omega) s2 (by omega) hnew hwn (by omega)
        rw [qsz_o, show b + (qsz x1 : Int) + 1 + (qsz x - ((qsz l + qsz x1 + 1 : Nat) : Int)) = b + (qsz x - qsz l) by omega] at s3 b3
        refine ⟨r', m3, ?_, s3, b3, t3, qFr_t f01 (qFr_t f2 f3 (by omega)) (by omega)⟩
        rw [b63_8]
        by_cases c : qsy s n p = 46
        · rw [c] at r2
          simp (config := { maxSteps := 2000000 }) (disch := first | omega | (simp only [k0, qb_in, qkW, qmW, qnW, true_and, and_true, or_self, true_or, or_true, and_self]; done) | (simp only [k0, qb_in, qkW, qmW, qnW, true_and, and_true, or_self, true_or, or_true, and_self]; omega)) only [b63_0, b63_5, b63_16, b63_20, b63_25, b63_29, b63_34, b63_41, b63_45, b63_61, b63_66, b63_69, b63_76, qcall_l, qcall_r, qretn_l, qJ_s, qJ_n, qV0, qEx, ↓qif0, ↓zchk_pos, ↓reduceIte, qput, qWW, qmW, qkW, qnW, k0, h1, h2', if_pos (show i < n by omega), sy, if_pos c, c, q32, r1, r2]
          exact r3
        · have c' : qsy s n p = 47 := by omega
          have c0 : fld = 0 := by omega
          rw [c'] at r2
          simp (config := { maxSteps := 2000000 }) (disch := first | omega | (simp only [k0, qb_in, qkW, qmW, qnW, true_and, and_true, or_self, true_or, or_true, and_self]; done) | (simp only [k0, qb_in, qkW, qmW, qnW, true_and, and_true, or_self, true_or, or_true, and_self]; omega)) only [b63_0, b63_5, b63_16, b63_20, b63_25, b63_29, b63_34, b63_41, b63_45, b63_61, b63_66, b63_69, b63_76, qcall_l, qcall_r, qretn_l, qJ_s, qJ_n, qV0, qEx, ↓qif0, ↓zchk_pos, ↓reduceIte, qput, qWW, qmW, qkW, qnW, k0, h1, h2', h3', if_pos (show i < n by omega), sy, if_neg c, if_pos c', if_pos c0, c', Int.reduceEq, q32, r1, r2]
          exact r3
    · -- a power
      intro d dep p q b l x m h hd hdep hp hpn hb hx hs
      obtain ⟨h40, q1, x1, h2, h⟩ := h
      obtain ⟨e, rfl, -⟩ := qd (show 1 + 1 ≤ d by omega)
      obtain ⟨a1, -, a3, -, a5⟩ := qPr_i s n fld _ _ _ _ _ _ _ h2 hp hpn
      have a3 := a3 (by decide)
      rw [if_neg (by decide)] at a5
      have hz : qsz x1 ≤ qsz x := by
        rcases h with ⟨-, -, x2, -, h5⟩ | ⟨-, -, q2, x2, -, -, -, h5⟩ | ⟨-, -, -, h5⟩
        · rw [h5, qsz_o]; omega
        · rw [h5, qsz_o]; omega
        · rw [h5]; exact Nat.le_refl _
      obtain ⟨r, m1, r1, s1, b1, t1, f1⟩ := I5 e dep p q1 b qNl x1 m h2 (by omega) h40 hdep hp hpn hb (by omega) hs
      have tk := fun c => s_take e (qW S m1) F s n fld q1 (b + qsz x1) c (by omega) hF s1 (by omega) hn.2 hc
      have h3' := s1.2.2.2.2.1
      rcases h with ⟨g1, g2, x2, h4, rfl⟩ | ⟨g1, g2, q2, x2, h4, g3, rfl, rfl⟩ | ⟨g1, g2, rfl, rfl⟩
      · have hy := qsy_l (s := s) (n := n) (p := q1) (by omega)
        have tk := tk 94
        rw [if_pos g2] at tk
        rw [qsz_o] at hx ⊢
        have s2 := qSt_2 s1 (q1 + 1)
        obtain ⟨a1', -, a3', -, a5'⟩ := qPr_i s n fld _ _ _ _ _ _ _ h4 (by omega) (by omega)
        obtain ⟨r', m2, r2, s3, b2, t2, f2⟩ := I4 e (dep + 1) (q1 + 1) q (b + qsz x1) qNl x2 _ h4 (by omega) (by omega) (by omega) (by omega) (by omega) (by omega) s2
        have f12 := qFr_t (qFr_2 F (b + qsz x1) (q1 + 1) m1) f2 (Int.le_refl _)
        obtain ⟨m3, r3, s4, u2, u3, u4, u5, f3⟩ := s_join e (qW S m2) F s n fld q (b + qsz x1 + qsz x2) 94 r r' (by omega) hF s3 (by omega) (by decide) b1.1 b2.1
        refine ⟨b + qsz x1 + qsz x2, m3, ?_, by rw [show b + ((qsz x1 + qsz x2 + 1 : Nat) : Int) = b + qsz x1 + qsz x2 + 1 by omega]; exact s4, by omega, ?_, qFr_t f1 (qFr_t f12 f3 (by omega)) (by omega)⟩
        · simp (config := { maxSteps := 2000000 }) (disch := first | omega | (simp only [k0, qb_in, qkW, qmW, qnW, true_and, and_true, or_self, true_or, or_true, and_self]; done) | (simp only [k0, qb_in, qkW, qmW, qnW, true_and, and_true, or_self, true_or, or_true, and_self]; omega)) only [zD_64, b64_0, b64_6, b64_8, b64_13, b64_21, b64_27, b64_30, b64_41, b64_44, b64_45, b64_52, b64_58, b64_61, b64_68, b64_75, b64_78, b64_86, b64_89, b64_90, b64_91, qcall_l, qcall_r, qretn_l, qJ_s, qJ_n, qV0, qEx, ↓qif0, ↓zchk_pos, ↓reduceIte, qput, qWW, qmW, qkW, qnW, k0, if_neg (show ¬ 40 < dep by omega), r1, h3', if_pos g1, tk, Int.reduceEq, q32, r2, r3]
        · rw [qcr_o, u2, u3, u4, u5]
          exact ⟨rfl, rfl, by omega, by omega, qcr_f f3.2.2 _ a3 _ (by omega) (qcr_f f12.2.2 _ a3 _ b1.2 t1), qcr_f f3.2.2 _ (a3' (by decide)) _ b2.2 t2⟩
      · have hy := qsy_l (s := s) (n := n) (p := q1) (by omega)
        have tk := tk 123
        rw [if_pos g2] at tk
        rw [qsz_o] at hx ⊢
        have s2 := qSt_2 s1 (q1 + 1)
        obtain ⟨a1', -, a3', -, a5'⟩ := qPr_i s n fld _ _ _ _ _ _ _ h4 (by omega) (by omega)
        have hy2 := qsy_l (s := s) (n := n) (p := q2) (by omega)
        obtain ⟨r', m2, r2, s3, b2, t2, f2⟩ := I0 e (dep + 1) (q1 + 1) q2 (b + qsz x1) qNl x2 _ h4 (by omega) (by omega) (by omega) (by omega) (by omega) (by omega) s2
        have f12 := qFr_t (qFr_2 F (b + qsz x1) (q1 + 1) m1) f2 (Int.le_refl _)
        have tk2 := s_take e (qW S m2) F s n fld q2 (b + qsz x1 + qsz x2) 125 (by omega) hF s3 (by omega) hn.2 hc
        rw [if_pos g3] at tk2
        have s3' := qSt_2 s3 (q2 + 1)
        obtain ⟨m3, r3, s4, u2, u3, u4, u5, f3⟩ := s_join e (qW S (qu m2 F 2 (q2 + 1))) F s n fld (q2 + 1) (b + qsz x1 + qsz x2) 94 r r' (by omega) hF s3' (by omega) (by decide) b1.1 b2.1
        have f23 := qFr_t (qFr_2 F (b + qsz x1 + qsz x2) (q2 + 1) m2) f3 (Int.le_refl _)
        refine ⟨b + qsz x1 + qsz x2, m3, ?_, by rw [show b + ((qsz x1 + qsz x2 + 1 : Nat) : Int) = b + qsz x1 + qsz x2 + 1 by omega]; exact s4, by omega, ?_, qFr_t f1 (qFr_t f12 f23 (by omega)) (by omega)⟩
        · simp (config := { maxSteps := 2000000 }) (disch := first | omega | (simp only [k0, qb_in, qkW, qmW, qnW, true_and, and_true, or_self, true_or, or_true, and_self]; done) | (simp only [k0, qb_in, qkW, qmW, qnW, true_and, and_true, or_self, true_or, or_true, and_self]; omega)) only [zD_64, b64_0, b64_6, b64_8, b64_13, b64_21, b64_27, b64_30, b64_41, b64_44, b64_45, b64_52, b64_58, b64_61, b64_68, b64_75, b64_78, b64_86, b64_89, b64_90, b64_91, qcall_l, qcall_r, qretn_l, qJ_s, qJ_n, qV0, qEx, ↓qif0, ↓zchk_pos, ↓reduceIte, qput, qWW, qmW, qkW, qnW, k0, if_neg (show ¬ 40 < dep by omega), r1, h3', if_neg g1, tk, Int.reduceEq, q32, r2, tk2, r3, qmW]
        · rw [qcr_o, u2, u3, u4, u5]
          exact ⟨rfl, rfl, by omega, by omega, qcr_f f23.2.2 _ a3 _ (by omega) (qcr_f f12.2.2 _ a3 _ b1.2 t1), qcr_f f23.2.2 _ (a3' (by decide)) _ b2.2 t2⟩
      · refine ⟨r, m1, ?_, s1, b1, t1, f1⟩
        by_cases c0 : fld = 0
        · have tk := tk 94
          rw [if_neg (show ¬ qsy s n q = 94 from fun z => g1 ⟨c0, z⟩)] at tk
          simp (config := { maxSteps := 2000000 }) (disch := first | omega | (simp only [k0, qb_in, qkW, qmW, qnW, true_and, and_true, or_self, true_or, or_true, and_self]; done) | (simp only [k0, qb_in, qkW, qmW, qnW, true_and, and_true, or_self, true_or, or_true, and_self]; omega)) only [zD_64, b64_0, b64_6, b64_8, b64_13, b64_21, b64_27, b64_30, b64_41, b64_44, b64_45, b64_52, b64_58, b64_61, b64_68, b64_75, b64_78, b64_86, b64_89, b64_90, b64_91, qcall_l, qcall_r, qretn_l, qJ_s, qJ_n, qV0, qEx, ↓qif0, ↓zchk_pos, ↓reduceIte, qput, qWW, qmW, qkW, qnW, k0, if_neg (show ¬ 40 < dep by omega), r1, h3', if_pos c0, tk, Int.reduceEq]
        · have tk := tk 123
          rw [if_neg (show ¬ qsy s n q = 123 from fun z => g2 ⟨c0, z⟩)] at tk
          simp (config := { maxSteps := 2000000 }) (disch := first | omega | (simp only [k0, qb_in, qkW, qmW, qnW, true_and, and_true, or_self, true_or, or_true, and_self]; done) | (simp only [k0, qb_in, qkW, qmW, qnW, true_and, and_true, or_self, true_or, or_true, and_self]; omega)) only [zD_64, b64_0, b64_6, b64_8, b64_13, b64_21, b64_27, b64_30, b64_41, b64_44, b64_45, b64_52, b64_58, b64_61, b64_68, b64_75, b64_78, b64_86, b64_89, b64_90, b64_91, qcall_l, qcall_r, qretn_l, qJ_s, qJ_n, qV0, qEx, ↓qif0, ↓zchk_pos, ↓reduceIte, qput, qWW, qmW, qkW, qnW, k0, if_neg (show ¬ 40 < dep by omega), r1, h3', if_neg c0, tk, Int.reduceEq]
    · -- an atom
      intro d dep p q b l x m h hd h40 hdep hp hpn hb hx hs
      obtain ⟨e, rfl, -⟩ := qd (show 1 + 1 ≤ d by omega)
      have sy := s_symbol e (qW S m) F s n fld p b (by omega) hF hs hp hn.2 hc
      have ss := s_isSmallLetter e (qsy s n p) (qW S m) (by omega)
      have tk := fun c => s_take e (qW S m) F s n fld p b c (by omega) hF hs (by omega) hn.2 hc
      have h2' := hs.2.2.2.1
      rcases h with ⟨h1, rfl, rfl⟩ | ⟨h1, q1, h2, h3, rfl⟩ | ⟨h1, q1, x1, q2, x2, h2, h3, h4, h5, rfl, rfl⟩ | ⟨h1, k, h2, h3, h4, h5, h6, rfl⟩
      · rw [qb_p h1] at ss
        rw [qsz_a] at hx ⊢
        obtain ⟨m1, r1, s1, u2, u3, u4, u5, f1⟩ := s_appendNode e (qW S (qu m F 2 (p + 1))) F s n fld (p + 1) b 97 (qsy s n p - 97) (-1) (-1) (by omega) hF (qSt_2 hs (p + 1)) (by omega) (by decide)
        refine ⟨b, m1, ?_, s1, by omega, ?_, qFr_t (qFr_2 F b (p + 1) m) f1 (Int.le_refl _)⟩
        · simp (config := { maxSteps := 2000000 }) (disch := first | omega | (simp only [k0, qb_in, qkW, qmW, qnW, true_and, and_true, or_self, true_or, or_true, and_self]; done) | (simp only [k0, qb_in, qkW, qmW, qnW, true_and, and_true, or_self, true_or, or_true, and_self]; omega)) only [zD_65, b65_0, b65_4, b65_9, b65_12, b65_28, b65_34, b65_35, b65_41, b65_44, b65_51, b65_58, b65_61, b65_65, b65_66, b65_67, b65_73, b65_76, b65_83, b65_90, b65_97, b65_104, b65_107, b65_108, b65_116, b65_119, b65_128, b65_131, b65_132, b65_133, b65_139, b65_144, qcall_l, qcall_r, qretn_l, qJ_s, qJ_n, qV0, qEx, ↓qif0, ↓zchk_pos, ↓reduceIte, qput, qWW, qmW, qkW, qnW, k0, sy, ss, h2', Int.reduceEq, q32, r1]
        · rw [qcr_a, if_pos (by omega), u2, u3]
          exact ⟨rfl, by omega⟩
      · have hy := qsy_l (s := s) (n := n) (p := p) (by omega)
        rw [qb_n (by omega)] at ss
        have tk := tk 40
        rw [if_pos h1] at tk
        obtain ⟨a1, -, a3, -, a5⟩ := qPr_i s n fld _ _ _ _ _ _ _ h2 (by omega) (by omega)
        obtain ⟨r, m1, r1, s1, b1, t1, f1⟩ := I0 e (dep + 1) (p + 1) q1 b qNl x _ h2 (by omega) (by omega) (by omega) (by omega) hb hx (qSt_2 hs (p + 1))
        have f01 := qFr_t (qFr_2 F b (p + 1) m) f1 (Int.le_refl _)
        have tk2 := s_take e (qW S m1) F s n fld q1 (b + qsz x) 41 (by omega) hF s1 (by omega) hn.2 hc
        rw [if_pos h3] at tk2
        refine ⟨r, qu m1 F 2 (q1 + 1), ?_, qSt_2 s1 (q1 + 1), b1, qcr_f (qFr_2 F (b + qsz x) (q1 + 1) m1).2.2 _ (a3 (by decide)) _ b1.2 t1, qFr_t f01 (qFr_2 F b (q1 + 1) m1) (Int.le_refl _)⟩
        simp (config := { maxSteps := 2000000 }) (disch := first | omega | (simp only [k0, qb_in, qkW, qmW, qnW, true_and, and_true, or_self, true_or, or_true, and_self]; done) | (simp only [k0, qb_in, qkW, qmW, qnW, true_and, and_true, or_self, true_or, or_true, and_self]; omega)) only [zD_65, b65_0, b65_4, b65_9, b65_12, b65_28, b65_34, b65_35, b65_41, b65_44, b65_51, b65_58, b65_61, b65_65, b65_66, b65_67, b65_73, b65_76, b65_83, b65_90, b65_97, b65_104, b65_107, b65_108, b65_116, b65_119, b65_128, b65_131, b65_132, b65_133, b65_139, b65_144, qcall_l, qcall_r, qretn_l, qJ_s, qJ_n, qV0, qEx, ↓qif0, ↓zchk_pos, ↓reduceIte, qput, qWW, qmW, qkW, qnW, k0, sy, ss, tk, Int.reduceEq, q32, r1, tk2, qmW]
      · have hy := qsy_l (s := s) (n := n) (p := p) (by omega)
        rw [qb_n (by omega)] at ss
        have tk1 := tk 40
        have tk2 := tk 91
        rw [if_neg (by omega)] at tk1
        rw [if_pos h1] at tk2
        rw [qsz_o] at hx ⊢
        obtain ⟨a1, -, a3, -, a5⟩ := qPr_i s n fld _ _ _ _ _ _ _ h2 (by omega) (by omega)
        have hy1 := qsy_l (s := s) (n := n) (p := q1) (by omega)
        obtain ⟨a1', -, a3', -, a5'⟩ := qPr_i s n fld _ _ _ _ _ _ _ h4 (by omega) (by omega)
        have hy2 := qsy_l (s := s) (n := n) (p := q2) (by omega)
        obtain ⟨r, m1, r1, s1, b1, t1, f1⟩ := I0 e (dep + 1) (p + 1) q1 b qNl x1 _ h2 (by omega) (by omega) (by omega) (by omega) hb (by omega) (qSt_2 hs (p + 1))
        have f01 := qFr_t (qFr_2 F b (p + 1) m) f1 (Int.le_refl _)
        have tk3 := s_take e (qW S m1) F s n fld q1 (b + qsz x1) 47 (by omega) hF s1 (by omega) hn.2 hc
        rw [if_pos h3] at tk3
        obtain ⟨r', m2, r2, s2, b2, t2, f2⟩ := I0 e (dep + 1) (q1 + 1) q2 (b + qsz x1) qNl x2 _ h4 (by omega) (by omega) (by omega) (by omega) (by omega) (by omega) (qSt_2 s1 (q1 + 1))
        have f12 := qFr_t (qFr_2 F (b + qsz x1) (q1 + 1) m1) f2 (Int.le_refl _)
        have tk4 := s_take e (qW S m2) F s n fld q2 (b + qsz x1 + qsz x2) 93 (by omega) hF s2 (by omega) hn.2 hc
        rw [if_pos h5] at tk4
        obtain ⟨m3, r3, s4, u2, u3, u4, u5, f3⟩ := s_join e (qW S (qu m2 F 2 (q2 + 1))) F s n fld (q2 + 1) (b + qsz x1 + qsz x2) 47 r r' (by omega) hF (qSt_2 s2 (q2 + 1)) (by omega) (by decide) b1.1 b2.1
        have f23 := qFr_t (qFr_2 F (b + qsz x1 + qsz x2) (q2 + 1) m2) f3 (Int.le_refl _)
        refine ⟨b + qsz x1 + qsz x2, m3, ?_, by rw [show b + ((qsz x1 + qsz x2 + 1 : Nat) : Int) = b + qsz x1 + qsz x2 + 1 by omega]; exact s4, by omega, ?_, qFr_t f01 (qFr_t f12 f23 (by omega)) (by omega)⟩
        · simp (config := { maxSteps := 2000000 }) (disch := first | omega | (simp only [k0, qb_in, qkW, qmW, qnW, true_and, and_true, or_self, true_or, or_true, and_self]; done) | (simp only [k0, qb_in, qkW, qmW, qnW, true_and, and_true, or_self, true_or, or_true, and_self]; omega)) only [zD_65, b65_0, b65_4, b65_9, b65_12, b65_28, b65_34, b65_35, b65_41, b65_44, b65_51, b65_58, b65_61, b65_65, b65_66, b65_67, b65_73, b65_76, b65_83, b65_90, b65_97, b65_104, b65_107, b65_108, b65_116, b65_119, b65_128, b65_131, b65_132, b65_133, b65_139, b65_144, qcall_l, qcall_r, qretn_l, qJ_s, qJ_n, qV0, qEx, ↓qif0, ↓zchk_pos, ↓reduceIte, qput, qWW, qmW, qkW, qnW, k0, sy, ss, tk1, tk2, Int.reduceEq, q32, r1, tk3, r2, tk4, r3, qmW]
        · rw [qcr_o, u2, u3, u4, u5]
          exact ⟨rfl, rfl, by omega, by omega, qcr_f f23.2.2 _ (a3 (by decide)) _ (by omega) (qcr_f f12.2.2 _ (a3 (by decide)) _ b1.2 t1), qcr_f f23.2.2 _ (a3' (by decide)) _ b2.2 t2⟩
      · rw [qb_n (by omega)] at ss
        have tk1 := tk 40
        have tk2 := tk 91
        have tk3 := tk 35
        rw [if_neg (by omega)] at tk1
        rw [if_neg (by omega)] at tk2
        rw [qsz_a] at hx ⊢
        rw [h6]
        by_cases c : qsy s n p = 35
        · rw [if_pos c] at tk3
          rw [if_pos c] at h4 h5 ⊢
          obtain ⟨m1, r1, s1, t1, f1⟩ := s_readNumber e (qW S (qu m F 2 (p + 1))) F s n fld (p + 1) b k (by omega) hF (qSt_2 hs (p + 1)) (by omega) hn.2 hc (by omega) ⟨h2, h3⟩ h4 (Or.inr h5)
          refine ⟨b, m1, ?_, s1, by omega, t1, qFr_t (qFr_2 F b (p + 1) m) f1 (Int.le_refl _)⟩
          simp (config := { maxSteps := 2000000 }) (disch := first | omega | (simp only [k0, qb_in, qkW, qmW, qnW, true_and, and_true, or_self, true_or, or_true, and_self]; done) | (simp only [k0, qb_in, qkW, qmW, qnW, true_and, and_true, or_self, true_or, or_true, and_self]; omega)) only [zD_65, b65_0, b65_4, b65_9, b65_12, b65_28, b65_34, b65_35, b65_41, b65_44, b65_51, b65_58, b65_61, b65_65, b65_66, b65_67, b65_73, b65_76, b65_83, b65_90, b65_97, b65_104, b65_107, b65_108, b65_116, b65_119, b65_128, b65_131, b65_132, b65_133, b65_139, b65_144, qcall_l, qcall_r, qretn_l, qJ_s, qJ_n, qV0, qEx, ↓qif0, ↓zchk_pos, ↓reduceIte, qput, qWW, qmW, qkW, qnW, k0, sy, ss, tk1, tk2, tk3, Int.reduceEq, q32, r1, qmW]
        · rw [if_neg c] at tk3
          rw [if_neg c] at h4 h5 ⊢
          obtain ⟨m1, r1, s1, t1, f1⟩ := s_readNumber e (qW S m) F s n fld p b k (by omega) hF hs (by omega) hn.2 hc (by omega) ⟨h2, h3⟩ h4 (Or.inr h5)
          refine ⟨b, m1, ?_, s1, by omega, t1, f1⟩
          simp (config := { maxSteps := 2000000 }) (disch := first | omega | (simp only [k0, qb_in, qkW, qmW, qnW, true_and, and_true, or_self, true_or, or_true, and_self]; done) | (simp only [k0, qb_in, qkW, qmW, qnW, true_and, and_true, or_self, true_or, or_true, and_self]; omega)) only [zD_65, b65_0, b65_4, b65_9, b65_12, b65_28, b65_34, b65_35, b65_41, b65_44, b65_51, b65_58, b65_61, b65_65, b65_66, b65_67, b65_73, b65_76, b65_83, b65_90, b65_97, b65_104, b65_107, b65_108, b65_116, b65_119, b65_128, b65_131, b65_132, b65_133, b65_139, b65_144, qcall_l, qcall_r, qretn_l, qJ_s, qJ_n, qV0, qEx, ↓qif0, ↓zchk_pos, ↓reduceIte, qput, qWW, qmW, qkW, qnW, k0, sy, ss, tk1, tk2, tk3, Int.reduceEq, q32, r1]
