/-! The tapes are wiped. -/
theorem h_wiped {V : zS} {m : Int → Int → Int} (hV : qHC V) (f : qFtp V m) (a : m 4 1 = 0) (b : m 37 2 = 0) (n : ∀ i : Int, i < 0 → m 5 i = m 38 i) : qHC (qW V m) :=
  (q5_type hV ⟨f, by show m 4 1 = m 37 2; rw [a, b], by show 0 ≤ m 37 2 ∧ m 37 2 ≤ 60; rw [b]; decide, fun i i2 => by
    have i2 : i < m 37 2 := i2
    exact n i (by omega), fun i i1 i2 => by
    have i2 : i < m 37 2 := i2
    omega⟩).1.1
theorem w_116 (e : Nat) (he : 300 ≤ e) {V : zS} (hV : qHC V) : zD e 116 [vr 3] V = some (.inl (some (vi (zm V 37 2))), qW V (qu (zm V) 4 1 0)) := by
  obtain ⟨⟨⟨⟨hK, hP, hL, hn⟩, ⟨hT, hC, hR, hk⟩, hPo, hY⟩, hBB⟩, hYC, hFc⟩ := id hV
  obtain ⟨e, rfl, -⟩ := qd (show 1 ≤ e by omega)
  obtain ⟨t1, t2, t3, t4⟩ := hT
  rw [← t1]
  simp (config := { maxSteps := 2000000 }) (disch := first | omega | (simp only [K_3 hK, K_4 hK, P_3_0 hP, P_3_0 hP, qb_in, qkW, qmW, qnW, true_and, and_true, or_self, true_or, or_true, and_self]; done) | (simp only [K_3 hK, K_4 hK, P_3_0 hP, P_3_0 hP, qb_in, qkW, qmW, qnW, true_and, and_true, or_self, true_or, or_true, and_self]; omega)) only [zD_116, b116_0, qcall_l, qcall_r, qretn_l, qJ_s, qJ_n, qV0, qEx, ↓qif0, ↓zchk_pos, ↓reduceIte, qput, qWW, qmW, qkW, qnW, K_3 hK, K_4 hK, P_3_0 hP, P_3_0 hP]
theorem h_wc {e : Nat} (he : 300 ≤ e) {V : zS} (hV : qHC V) {m : Int → Int → Int} (hm : ∀ x : Int, ¬ (37 ≤ x ∧ x ≤ 102) → m x = qu (zm V) 4 1 0 x) : hS e 116 [] (.inl (some (vi (zm V 37 2)))) V (qW V m) :=
  h_cls2 (as := []) (by rfl) trivial (o := .inl (some (vi (zm V 37 2)))) trivial (w_116 e he hV) ⟨Nat.le_refl _, Nat.le_refl _, Nat.le_refl _, fun _ _ => rfl⟩ fun x _ hg => hm x hg
/-- both wipe -/
theorem h_wipe {V W : zS} (h : hY V W) (e : Nat) (he : 300 ≤ e) : ∃ V2 W2, hS e 116 [] (.inl (some (vi (zm V 37 2)))) V V2 ∧ hS e 116 [] (.inl (some (vi (zm V 37 2)))) W W2 ∧ hY V2 W2 ∧ zm V2 37 2 = 0 ∧ (∀ j, j ≠ 2 → zm V2 37 j = zm V 37 j) ∧ (hI (zm V) → hI (zm V2)) ∧ (zc V2 = zc V ∧ zw V2 = zw V) ∧ (zc W2 = zc W ∧ zw W2 = zw W) ∧ (∀ j, j ≠ 2 → zm W2 37 j = zm W 37 j) := by
  have key : ∀ V : zS, qHC V → qHC (qW V (qu (qu (zm V) 4 1 0) 37 2 0)) := fun V hV => by
    obtain ⟨t1, t2, t3, t4⟩ := hV.1.1.2.1.1
    refine h_wiped hV (fun x j q => ?_) ?_ (qu_s _ _ _ _) fun i hi => ?_
    · simp only [qu1]
      repeat' split
      all_goals first | rfl | (exfalso; omega)
    · rw [qu_o _ _ _ _ _ (by decide), qu_s]
    · rw [qu_o _ _ _ _ _ (by decide), qu_o _ _ _ _ _ (by decide), qu_o _ _ _ _ _ (by decide), qu_o _ _ _ _ _ (by decide)]
      exact t3 i (by omega)
  have ks : ∀ V : zS, qHC V → hS e 116 [] (.inl (some (vi (zm V 37 2)))) V (qW V (qu (qu (zm V) 4 1 0) 37 2 0)) := fun V hV => h_wc he hV fun x hx => qu_o _ _ _ _ _ (by omega)
  have e37 := hY_37 h
  have sV := ks V h.2.1
  have sW := ks W h.2.2.1
  rw [← e37] at sW
  have m37 : ∀ (V : zS) (j : Int), j ≠ 2 → qu (qu (zm V) 4 1 0) 37 2 0 37 j = zm V 37 j := fun V j hj => by rw [qu_i _ _ _ _ _ hj, qu_o _ _ _ _ _ (by decide)]
  have mo : ∀ (V : zS) (x : Int), x ≠ 37 → x ≠ 4 → qu (qu (zm V) 4 1 0) 37 2 0 x = zm V x := fun V x h1 h2 => by rw [qu_o _ _ _ _ _ h1, qu_o _ _ _ _ _ h2]
  refine ⟨_, _, sV, sW, h.go sV sW (key V h.2.1) (key W h.2.2.1) fun x hx => ?_, by show qu (qu (zm V) 4 1 0) 37 2 0 37 2 = 0; exact qu_s _ _ _ _, m37 V, hI_e (fun j hj => m37 V j (by omega)) (fun z hz => mo V z (by omega) (by omega)), ⟨rfl, rfl⟩, ⟨rfl, rfl⟩, m37 W⟩
  show qu (qu (zm V) 4 1 0) 37 2 0 x = qu (qu (zm W) 4 1 0) 37 2 0 x
  by_cases c : x = 37
  · subst c
    funext j
    by_cases cj : j = 2
    · rw [cj, qu_s, qu_s]
    · rw [m37 V j cj, m37 W j cj, e37]
  · have x4 : x ≠ 4 := by
      have hx : x = 0 ∨ x = 2 ∨ (37 ≤ x ∧ x ≤ 101) := hx
      omega
    rw [mo V x c x4, mo W x c x4]
    exact h.2.2.2 x hx
/-- null and the letters stay -/
theorem hH.r0 {a b : Int} {Z V W : zS} (h : hH a b Z V W) : zm V 0 = zm Z 0 ∧ zm V 2 = zm Z 2 := by
  obtain ⟨k0, k2⟩ := h.k0
  obtain ⟨p, s, ⟨g1, -⟩, -⟩ := h
  refine ⟨funext fun j => ((g1.2.2 0 0 g1.1.1.1).2.2 j).2 ?_, funext fun j => ((g1.2.2 2 2 g1.1.1.2).2.2 j).2 ?_⟩
  · rw [k0]
    rfl
  · rw [k2]
    rfl
theorem hH.n3 {a b : Int} {Z V W : zS} (h : hH a b Z V W) : (2 : Int) < zn Z := by
  obtain ⟨p, s, ⟨g1, -⟩, -⟩ := h
  exact (g1.2.2 2 2 g1.1.1.2).1.2
theorem h_02 {V V2 W : zS} {e y : Nat} {as : List zV} {o : zO} (s : hS e y as o V V2) (hx : ∃ Z a b, hH a b Z V W) : zm V2 0 = zm V 0 ∧ zm V2 2 = zm V 2 := by
  obtain ⟨Z, a, b, hh⟩ := hx
  obtain ⟨Z1, -, h1, m, -, -, f⟩ := s Z a b W hh
  have n3 := hh.n3
  obtain ⟨a0, a2⟩ := hh.r0
  obtain ⟨b0, b2⟩ := h1.r0
  obtain ⟨-, -, -, -, -, z0, z2⟩ := hh
  exact ⟨by rw [b0, a0]; exact f 0 (by omega) (Or.inr z0), by rw [b2, a2]; exact f 2 n3 (Or.inl z2)⟩
/-- a refused act, wiped: as if nothing had been -/
theorem h_back {V W V1 V3 : zS} (h : hY V W) (h0 : zm V 37 2 = 0) (t : hT V V1) (d : hD V1 V3) (hx : ∃ Z a b, hH a b Z V3 W) (z0 : zm V3 0 = zm V 0 ∧ zm V3 2 = zm V 2) (e : Nat) (he : 300 ≤ e) : ∃ V4, hS e 116 [] (.inl (some (vi (zm V3 37 2)))) V3 V4 ∧ hY V4 W ∧ zm V4 37 = zm V 37 ∧ (hI (zm V) → hI (zm V4)) ∧ zc V4 = zc V3 ∧ zw V4 = zw V3 := by
  obtain ⟨t1, t2, t3, t4⟩ := h.2.1.1.1.2.1.1
  have n103 := h.2.1.1.1.1.2.2.2
  have tn := t.2.2
  obtain ⟨m, hm⟩ : ∃ m : Int → Int → Int, m = fun x j => if x = 4 ∧ j = 1 then 0 else if 37 ≤ x ∧ x ≤ 101 then zm V x j else zm V3 x j := ⟨_, rfl⟩
  have m4 : m 4 1 = 0 := by rw [hm]; exact if_pos ⟨rfl, rfl⟩
  have mg : ∀ x, 37 ≤ x ∧ x ≤ 101 → m x = zm V x := fun x hx => by
    rw [hm]
    funext j
    show (if x = 4 ∧ j = 1 then 0 else if 37 ≤ x ∧ x ≤ 101 then zm V x j else zm V3 x j) = _
    rw [if_neg (by omega), if_pos hx]
  have mo : ∀ x j, ¬ (37 ≤ x ∧ x ≤ 101) → ¬ (x = 4 ∧ j = 1) → m x j = zm V3 x j := fun x j hx hj => by
    rw [hm]
    show (if x = 4 ∧ j = 1 then 0 else if 37 ≤ x ∧ x ≤ 101 then zm V x j else zm V3 x j) = _
    rw [if_neg hj, if_neg hx]
  have hq : qHC (qW V3 m) := by
    refine h_wiped d.1 (fun x j q => ?_) m4 (by rw [mg 37 (by decide)]; exact h0) fun i hi => ?_
    · by_cases c : 37 ≤ x ∧ x ≤ 101
      · rw [mg x c, d.2.2.1 x (Or.inl (Or.inr (Or.inr c)))]
        exact (t.1 x j c.1 c.2 (by omega) (by omega)).symm
      · exact mo x j c (by omega)
    · rw [mo 5 i (by decide) (by omega), mg 38 (by decide), d.2.2.2 5 i (by omega) hi, t.2.1 5 i (by omega) hi]
      exact t3 i (by omega)
  have s : hS e 116 [] (.inl (some (vi (zm V3 37 2)))) V3 (qW V3 m) := h_wc he d.1 fun x hx => by
    funext j
    by_cases c : x = 4 ∧ j = 1
    · obtain ⟨rfl, rfl⟩ := c
      rw [m4, qu_s]
    · rw [mo x j (by omega) c]
      by_cases c4 : x = 4
      · subst c4
        rw [qu_i _ _ _ _ _ (by omega)]
      · rw [qu_o _ _ _ _ _ c4]
  refine ⟨qW V3 m, s, ⟨s.x hx, hq, h.2.2.1, fun x hx => ?_⟩, mg 37 (by decide), hI_e (fun j _ => by show m 37 j = _; rw [mg 37 (by decide)]) (fun z hz => mg z (by omega)), rfl, rfl⟩
  show m x = zm W x
  rw [← h.2.2.2 x hx]
  rcases hx with rfl | rfl | hx
  · rw [← z0.1]
    exact funext fun j => mo 0 j (by decide) (by omega)
  · rw [← z0.2]
    exact funext fun j => mo 2 j (by decide) (by omega)
  · exact mg x hx
/-- what has come of books and copies -/
def cn (V : zS) : Int := zm V 37 16 + zm V 37 65
theorem cn_e {V V2 : zS} (h : zm V2 37 = zm V 37) : cn V2 = cn V := by unfold cn; rw [h]
theorem cn_r {V : zS} (h : qHC V) : 0 ≤ cn V ∧ cn V ≤ 24 := q_few h
/-- what is spent -/
def hCn (n m : Nat) (V V2 : zS) : Prop := zc V2 ≤ zc V + n ∧ (zw V2 : Int) ≤ zw V + m + 15000 * (cn V2 - cn V)
theorem hCt_n {V V2 : zS} (h : hCt V V2) : hCn 500 2000 V V2 := h
/-- what stands at each of the law's steps -/
def hLw (V W : zS) : Prop := hY V W ∧ hI (zm V) ∧ zm V 37 2 = 0 ∧ 2 ≤ zm V 37 16
theorem hLw.d {V W V2 : zS} (h : hLw V W) (d : hD V V2) (hx : ∃ Z a b, hH a b Z V2 W) : hLw V2 W := by
  have e37 : zm V2 37 = zm V 37 := d.2.2.1 37 (Or.inl (Or.inr (Or.inr (by decide))))
  exact ⟨⟨hx, d.1, h.1.2.2.1, d.G.tr h.1.2.2.2⟩, hD_I d h.2.1, by rw [e37]; exact h.2.2.1, by rw [e37]; exact h.2.2.2⟩
theorem hLw.dd {V W V2 W2 : zS} (h : hLw V W) (d : hD V V2) (y : hY V2 W2) : hLw V2 W2 := by
  have e37 : zm V2 37 = zm V 37 := d.2.2.1 37 (Or.inl (Or.inr (Or.inr (by decide))))
  exact ⟨y, hD_I d h.2.1, by rw [e37]; exact h.2.2.1, by rw [e37]; exact h.2.2.2⟩
/-- one act of the law, its formula read back, the tapes wiped -/
theorem h_step {V W : zS} (h : hLw V W) (v : Int) : ∃ (told sg : Int) (V2 V3 V4 : zS), hS 799 348 [vi v] (.inl (some (vl told))) V V2 ∧ qHC V2 ∧ hS 799 354 [] (.inl (some (vi 1))) V2 V3 ∧ qHC V3 ∧ hS 799 116 [] (.inl (some (vi sg))) V3 V4 ∧ (hCn 500 2000 V V2 ∧ hCn 1 6 V2 V3 ∧ hCn 0 0 V3 V4) ∧
    ((told = -9999999 ∧ hLw V4 W) ∨ (told ≠ -9999999 ∧ ∃ W2 W4, hS 799 348 [vi v] (.inl (some (vl told))) W W2 ∧ qHC W2 ∧ hS 799 116 [] (.inl (some (vi sg))) W2 W4 ∧ (hCn 500 2000 W W2 ∧ hCn 0 0 W2 W4) ∧ hLw V4 W4)) := by
  obtain ⟨hy, hi, h0, h16⟩ := h
  obtain ⟨told, a1, a2⟩ := h_act6 hy h0 795 (by decide) v
  by_cases ct : told = -9999999
  · obtain ⟨V1, V2, t1, d1, s1, k1, k2⟩ := a2 ct
    have hx2 := s1.x hy.1
    obtain ⟨V3, s2, d2, k3, k4⟩ := h_isrb 797 (by decide) hx2 d1.1
    have hx3 := s2.x hx2
    obtain ⟨z1, z2⟩ := h_02 s1 hy.1
    obtain ⟨z3, z4⟩ := h_02 s2 hx2
    obtain ⟨V4, s3, y4, e37, i4, c4, w4⟩ := h_back hy h0 t1 (d1.tr d2) hx3 ⟨z3.trans z1, z4.trans z2⟩ 799 (by decide)
    have f1 : ∀ j, j = 16 ∨ j = 65 → zm V2 37 j = zm V 37 j := fun j hj => by
      rw [d1.2.2.1 37 (Or.inl (Or.inr (Or.inr (by decide))))]
      exact hT_37 t1 j (by omega)
    have c1 : cn V2 = cn V := by unfold cn; rw [f1 16 (by decide), f1 65 (by decide)]
    have c2 : cn V3 = cn V2 := cn_e (d2.2.2.1 37 (Or.inl (Or.inr (Or.inr (by decide)))))
    have c3 : cn V4 = cn V := cn_e e37
    exact ⟨told, _, V2, V3, V4, s1, d1.1, s2, d2.1, s3, ⟨⟨by omega, by omega⟩, ⟨by omega, by omega⟩, ⟨by omega, by omega⟩⟩, Or.inl ⟨ct, y4, i4 hi, by rw [e37]; exact h0, by rw [e37]; exact h16⟩⟩
  · obtain ⟨V2, W2, s1, s1', y2, ⟨k1, i2, g16⟩, k1'⟩ := a1 ct
    obtain ⟨V3, s2, d2, k3, k4⟩ := h_isrb 797 (by decide) y2.1 y2.2.1
    have y3 : hY V3 W2 := ⟨s2.x y2.1, d2.1, y2.2.2.1, d2.G.tr y2.2.2.2⟩
    obtain ⟨V4, W4, s3, s3', y4, z2, m37, i4, ⟨c4, w4⟩, ⟨c5, w5⟩, m37'⟩ := h_wipe y3 799 (by decide)
    have e3 : zm V3 37 = zm V2 37 := d2.2.2.1 37 (Or.inl (Or.inr (Or.inr (by decide))))
    have c2 : cn V3 = cn V2 := cn_e e3
    have c3 : cn V4 = cn V3 := by unfold cn; rw [m37 16 (by decide), m37 65 (by decide)]
    have c3' : cn W4 = cn W2 := by unfold cn; rw [m37' 16 (by decide), m37' 65 (by decide)]
    exact ⟨told, _, V2, V3, V4, s1, y2.2.1, s2, d2.1, s3, ⟨hCt_n k1, ⟨by omega, by omega⟩, ⟨by omega, by omega⟩⟩, Or.inr ⟨ct, W2, W4, s1', y2.2.2.1, s3', ⟨hCt_n k1', ⟨by omega, by omega⟩⟩, y4, i4 (hD_I d2 (i2 hi)), z2, by rw [m37 16 (by decide), e3]; omega⟩⟩
