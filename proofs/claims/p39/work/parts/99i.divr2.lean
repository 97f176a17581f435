/-! A divided word: what the reference answers. -/
theorem qdvw_s (t : Int → Int) : ∀ i : Nat, (∀ j : Int, 0 ≤ j → j < i → qdvc (t j)) → ∀ j, 0 ≤ j → j < qdvl t i → qsm (qdvw t i j) := by
  intro i
  induction i with
  | zero =>
    intro _ j j1 j2
    have : j < 0 := j2
    omega
  | succ i ih =>
    intro h j j1 j2
    have ih := ih fun j j1 j2 => h j j1 (by omega)
    by_cases c : t i = 32
    · rw [qdvl, if_pos c] at j2
      rw [qdvw, if_pos c]
      exact ih j j1 (by omega)
    · rw [qdvl, if_neg c] at j2
      rw [qdvw, if_neg c]
      show qsm (if j = qdvl t i then t i else qdvw t i j)
      by_cases z : j = qdvl t i
      · rw [if_pos z]
        exact (h i (by omega) (by omega)).resolve_right c
      · rw [if_neg z]
        exact ih j j1 (by omega)
/-- the letters of the tape, from 0 on -/
def qdW (t : Int → Int) (i : Nat) : List Int := qlf (fun j => qdvw t i j - 97) (qdvl t i).toNat
theorem qdW_l (t : Int → Int) (i : Nat) : ((qdW t i).length : Int) = qdvl t i := by
  have := qdvl_r t i
  unfold qdW
  rw [qlf_l]
  omega
theorem qdW_n (t : Int → Int) (i : Nat) (j : Int) (h : 0 ≤ j ∧ j < qdvl t i) : qnth (qdW t i) j = qdvw t i j - 97 := qlf_n _ _ j h.1 (by omega)
theorem r_divHead (e : Nat) (Z : zS) (m1 : Int → Int → Int) (i : Nat) (v : Int) (t : Int → Int) (he : 2 ≤ e) (hK : qK Z) (hP : qP (zm Z)) (hm : qdM Z t i m1) (hl : qdvl t i ≤ 10) (hD : 0 ≤ zm Z 37 12 ∧ zm Z 37 12 ≤ 12)
    (r : zD e 212 [vr 37] Z = some (.inl (some (vi v)), qW Z m1)) :
    ∃ m3, zD (e + 1) 213 [vr 37] Z = zF_213 e 14 [vr 37, vi v, vu] [] (qW Z m3) ∧ (∀ x, x ≠ 37 → x ≠ 64 → m3 x = zm Z x) ∧ (∀ j, j ≠ 33 → j ≠ 36 → j ≠ 38 → m3 37 j = zm Z 37 j) ∧ m3 37 36 = qdvl t i ∧ m3 37 38 = qPw (zm Z) (qdW t i) 0 ∧ (∀ j, 0 ≤ j → j < qdvl t i → m3 64 j = qdvw t i j) ∧ qP m3 := by
  obtain ⟨f0, f1, f2, f3⟩ := hm
  have hr := qdvl_r t i
  have bd : ∀ q ∈ qPt, q.1 ≠ 64 ∧ ¬ (q.1 = 37 ∧ (q.2.1 = 33 ∨ q.2.1 = 36 ∨ q.2.1 = 38)) := by decide
  have hPs : ∀ m : Int → Int → Int, (∀ x, x ≠ 37 → x ≠ 64 → m x = zm Z x) → (∀ j, j ≠ 33 → j ≠ 36 → j ≠ 38 → m 37 j = zm Z 37 j) → qP m := fun m g1 g2 => hP.same fun q hq => by
    obtain ⟨b1, b2⟩ := bd q hq
    by_cases c : q.1 = 37
    · rw [c]
      exact g2 _ (fun z => b2 ⟨c, Or.inl z⟩) (fun z => b2 ⟨c, Or.inr (Or.inl z)⟩) (fun z => b2 ⟨c, Or.inr (Or.inr z)⟩)
    · rw [g1 _ c b1]
  have g0 : ∀ x, x ≠ 37 → x ≠ 64 → qu m1 37 33 0 x = zm Z x := fun x x1 x2 => by rw [qu_o _ _ _ _ _ x1, f0 x x1 x2]
  have g1 : ∀ j, j ≠ 33 → j ≠ 36 → j ≠ 38 → qu m1 37 33 0 37 j = zm Z 37 j := fun j j1 j2 _ => by rw [qu_i _ _ _ _ _ j1, f1 j j2]
  have g36 : qu m1 37 33 0 37 36 = qdvl t i := by rw [qu_i _ _ _ _ _ (by decide), f2]
  have g12 : qu m1 37 33 0 37 12 = zm Z 37 12 := g1 12 (by decide) (by decide) (by decide)
  have g33 : qu m1 37 33 0 37 33 = 0 := qu_s _ _ _ _
  have g64 : ∀ j, 0 ≤ j → j < qdvl t i → qu m1 37 33 0 64 j = qdvw t i j := fun j j1 j2 => by rw [qu_o _ _ _ _ _ (by decide)]; exact f3 j j1 j2
  have fp := r_findsParts e (qW Z (qu m1 37 33 0)) (by omega) hK (hPs _ g0 g1) (by rw [qmW, g36]; omega) (by rw [qmW, g12]; exact hD)
  have ep : qpts (qu m1 37 33 0) (qu m1 37 33 0 37 33) (qu m1 37 33 0 37 36) (qu m1 37 33 0 64) = qPw (zm Z) (qdW t i) 0 := by
    unfold qpts qPw
    rw [g33, g36, g12, g0 46 (by decide) (by decide), g0 47 (by decide) (by decide), g0 48 (by decide) (by decide), qdW_l]
    refine qfp_c _ _ _ (by omega) _ _ _ _ _ (fun _ j j1 j2 => ?_) _ _ _
    show _ = qnth (qdW t i) j + 97
    rw [qdW_n t i j ⟨j1, j2⟩, g64 j j1 j2]
    omega
  have fp : zD e 207 [vr 37] (qW Z (qu m1 37 33 0)) = some (.inl none, qW Z (qu (qu m1 37 33 0) 37 38 (qPw (zm Z) (qdW t i) 0))) := by
    rw [← ep]
    exact fp
  refine ⟨qu (qu m1 37 33 0) 37 38 (qPw (zm Z) (qdW t i) 0), ?_, fun x x1 x2 => by rw [qu_o _ _ _ _ _ x1, g0 x x1 x2], fun j j1 j2 j3 => by rw [qu_i _ _ _ _ _ j3, g1 j j1 j2 j3], by rw [qu_i _ _ _ _ _ (by decide), g36], qu_s _ _ _ _, fun j j1 j2 => by rw [qu_o _ _ _ _ _ (by decide)]; exact g64 j j1 j2, hPs _ (fun x x1 x2 => by rw [qu_o _ _ _ _ _ x1, g0 x x1 x2]) fun j j1 j2 j3 => by rw [qu_i _ _ _ _ _ j3, g1 j j1 j2 j3]⟩
  simp (config := { maxSteps := 2000000 }) (disch := first | omega | (simp only [K_37 hK, qb_in, qkW, qmW, qnW, true_and, and_true, or_self, true_or, or_true, and_self]; done) | (simp only [K_37 hK, qb_in, qkW, qmW, qnW, true_and, and_true, or_self, true_or, or_true, and_self]; omega)) only [zD_213, b213_0, b213_4, b213_19, b213_23, b213_32, b213_39, b213_44, b213_47, b213_51, b213_52, b213_55, b213_58, b213_60, b213_70, b213_87, b213_96, b213_114, b213_130, qcall_l, qcall_r, qretn_l, qJ_s, qJ_n, qV0, qEx, ↓qif0, ↓zchk_pos, ↓reduceIte, qput, qWW, qmW, qkW, qnW, K_37 hK, r, fp, Int.reduceLE, true_and, and_self]
theorem r_divBad (e : Nat) (Z : zS) (px n : Int) (t : Int → Int) (he : 7 ≤ e) (hK : qK Z) (hP : qP (zm Z)) (hT : qTr (zm Z)) (hD : 0 ≤ zm Z 37 12 ∧ zm Z 37 12 ≤ 12) (hB : 0 ≤ zm Z 37 16 ∧ zm Z 37 16 ≤ 4) (p2 : zm Z 37 2 = n) (p38 : zm Z 38 = t)
    (hc : ¬ qdok t n ∧ px = 1 ∨ qdok t n ∧ (zm Z 37 12 = 12 ∨ ¬ qPw (zm Z) (qdW t n.toNat) 0 = 0 ∨ qhwf (zm Z) (-1) (zm Z 37 16).toNat = 1) ∧ px = 2) :
    ∃ m2, zD (e + 1) 213 [vr 37] Z = some (.inl (some (vi 0)), qW Z m2) ∧ m2 37 0 = px ∧ (∀ x, x ≠ 37 → x ≠ 64 → m2 x = zm Z x) ∧ ∀ j, j ≠ 0 → j ≠ 33 → j ≠ 36 → j ≠ 38 → m2 37 j = zm Z 37 j := by
  obtain ⟨a, b⟩ := r_takesParts e Z n t he hK hP hT p2 p38
  have px0 : ¬ px = 0 := by omega
  have hd := fun m => r_holds e (qW Z m) px (by omega) hK
  rw [qb_n px0] at hd
  have hd : ∀ m, zD e 182 [vr 37, vi px] (qW Z m) = some (.inl (some (vi 0)), qW Z (qu m 37 0 px)) := hd
  have fin : ∀ m3 : Int → Int → Int, (∀ x, x ≠ 37 → x ≠ 64 → m3 x = zm Z x) → (∀ j, j ≠ 33 → j ≠ 36 → j ≠ 38 → m3 37 j = zm Z 37 j) → qu m3 37 0 px 37 0 = px ∧ (∀ x, x ≠ 37 → x ≠ 64 → qu m3 37 0 px x = zm Z x) ∧ ∀ j, j ≠ 0 → j ≠ 33 → j ≠ 36 → j ≠ 38 → qu m3 37 0 px 37 j = zm Z 37 j := fun m3 u0 u1 => ⟨qu_s _ _ _ _, fun x x1 x2 => by rw [qu_o _ _ _ _ _ x1, u0 x x1 x2], fun j j0 j1 j2 j3 => by rw [qu_i _ _ _ _ _ j0, u1 j j1 j2 j3]⟩
  rcases hc with ⟨c, rfl⟩ | ⟨c, c2, rfl⟩
  · obtain ⟨m1, i, r, hm, hl⟩ := b c
    obtain ⟨m3, r3, u0, u1, -⟩ := r_divHead e Z m1 i 0 t (by omega) hK hP hm hl hD r
    refine ⟨qu m3 37 0 1, ?_, fin m3 u0 u1⟩
    rw [r3]
    have hd := hd m3
    simp (config := { maxSteps := 2000000 }) (disch := first | omega | (simp only [K_37 hK, qb_in, qkW, qmW, qnW, true_and, and_true, or_self, true_or, or_true, and_self]; done) | (simp only [K_37 hK, qb_in, qkW, qmW, qnW, true_and, and_true, or_self, true_or, or_true, and_self]; omega)) only [b213_0, b213_4, b213_14, b213_19, b213_23, b213_32, b213_39, b213_44, b213_47, b213_51, b213_52, b213_55, b213_58, b213_60, b213_70, b213_87, b213_96, b213_114, b213_130, qcall_l, qcall_r, qretn_l, qJ_s, qJ_n, qV0, qEx, ↓qif0, ↓zchk_pos, ↓reduceIte, qput, qWW, qmW, qkW, qnW, K_37 hK, hd, Int.reduceEq]
  · obtain ⟨m1, r, hm⟩ := a c
    obtain ⟨m3, r3, u0, u1, u36, u38, u64, hP3⟩ := r_divHead e Z m1 n.toNat _ t (by omega) hK hP hm c.2.2 hD r
    refine ⟨qu m3 37 0 2, ?_, fin m3 u0 u1⟩
    have nz : ¬ qdB t n = 0 := fun z => by
      obtain ⟨v1, -, -, -, -⟩ := qdv t n (by rw [← p2]; exact hT.1) c
      have := (v1 0 (Int.le_refl 0) (by have := qcw_r t n.toNat; omega)).2.2
      rw [z, qbt_0] at this
      exact absurd this (by decide)
    have v12 : m3 37 12 = zm Z 37 12 := u1 12 (by decide) (by decide) (by decide)
    have v16 : m3 37 16 = zm Z 37 16 := u1 16 (by decide) (by decide) (by decide)
    have hd := hd m3
    rw [r3]
    by_cases c1 : zm Z 37 12 = 12
    · simp (config := { maxSteps := 2000000 }) (disch := first | omega | (simp only [K_37 hK, qb_in, qkW, qmW, qnW, true_and, and_true, or_self, true_or, or_true, and_self]; done) | (simp only [K_37 hK, qb_in, qkW, qmW, qnW, true_and, and_true, or_self, true_or, or_true, and_self]; omega)) only [b213_0, b213_4, b213_14, b213_19, b213_23, b213_32, b213_39, b213_44, b213_47, b213_51, b213_52, b213_55, b213_58, b213_60, b213_70, b213_87, b213_96, b213_114, b213_130, qcall_l, qcall_r, qretn_l, qJ_s, qJ_n, qV0, qEx, ↓qif0, ↓zchk_pos, ↓reduceIte, qput, qWW, qmW, qkW, qnW, K_37 hK, if_neg nz, v12, if_pos c1, hd, Int.reduceEq]
    · by_cases c3 : qPw (zm Z) (qdW t n.toNat) 0 = 0
      · have c4 : qhwf (zm Z) (-1) (zm Z 37 16).toNat = 1 := (c2.resolve_left c1).resolve_left fun z => z c3
        have hw := r_hasWords e (qW Z m3) (-1) (by omega) hK hP3 (by rw [qmW, v16]; exact hB)
        rw [qmW, v16, qhwf_e (u0 54 (by decide) (by decide)) (u0 49 (by decide) (by decide)), c4] at hw
        simp (config := { maxSteps := 2000000 }) (disch := first | omega | (simp only [K_37 hK, qb_in, qkW, qmW, qnW, true_and, and_true, or_self, true_or, or_true, and_self]; done) | (simp only [K_37 hK, qb_in, qkW, qmW, qnW, true_and, and_true, or_self, true_or, or_true, and_self]; omega)) only [b213_0, b213_4, b213_14, b213_19, b213_23, b213_32, b213_39, b213_44, b213_47, b213_51, b213_52, b213_55, b213_58, b213_60, b213_70, b213_87, b213_96, b213_114, b213_130, qcall_l, qcall_r, qretn_l, qJ_s, qJ_n, qV0, qEx, ↓qif0, ↓zchk_pos, ↓reduceIte, qput, qWW, qmW, qkW, qnW, K_37 hK, if_neg nz, v12, if_neg c1, u38, if_pos c3, hw, hd, Int.reduceEq]
      · simp (config := { maxSteps := 2000000 }) (disch := first | omega | (simp only [K_37 hK, qb_in, qkW, qmW, qnW, true_and, and_true, or_self, true_or, or_true, and_self]; done) | (simp only [K_37 hK, qb_in, qkW, qmW, qnW, true_and, and_true, or_self, true_or, or_true, and_self]; omega)) only [b213_0, b213_4, b213_14, b213_19, b213_23, b213_32, b213_39, b213_44, b213_47, b213_51, b213_52, b213_55, b213_58, b213_60, b213_70, b213_87, b213_96, b213_114, b213_130, qcall_l, qcall_r, qretn_l, qJ_s, qJ_n, qV0, qEx, ↓qif0, ↓zchk_pos, ↓reduceIte, qput, qWW, qmW, qkW, qnW, K_37 hK, if_neg nz, v12, if_neg c1, u38, if_neg c3, hd, Int.reduceEq]
theorem r_divGood (e : Nat) (Z : zS) (n K : Int) (t : Int → Int) (he : 7 ≤ e) (hK : qK Z) (hP : qP (zm Z)) (hT : qTr (zm Z)) (hB : 0 ≤ zm Z 37 16 ∧ zm Z 37 16 ≤ 4) (p2 : zm Z 37 2 = n) (p38 : zm Z 38 = t) (p12 : zm Z 37 12 = K) (hk : 0 ≤ K ∧ K < 12)
    (c : qdok t n) (c3 : qPw (zm Z) (qdW t n.toNat) 0 = 0) (c4 : qhwf (zm Z) (-1) (zm Z 37 16).toNat = 0) :
    ∃ m2, zD (e + 1) 213 [vr 37] Z = some (.inl (some (vi (qdvl t n.toNat))), qW Z m2) ∧ (m2 37 0 = 0 ∧ m2 37 2 = 0 ∧ m2 37 12 = K + 1) ∧ (∀ j, j ≠ 0 → j ≠ 2 → j ≠ 12 → j ≠ 33 → j ≠ 36 → j ≠ 38 → m2 37 j = zm Z 37 j) ∧ (∀ x, x ≠ 37 → x ≠ 64 → x ≠ 46 → x ≠ 47 → x ≠ 48 → m2 x = zm Z x) ∧
      (∀ i, m2 47 i = if i = K then qdvl t n.toNat else zm Z 47 i) ∧ (∀ i, m2 48 i = if i = K then qdB t n else zm Z 48 i) ∧ ∀ i, m2 46 i = if 10 * K ≤ i ∧ i < 10 * K + qdvl t n.toNat then qdvw t n.toNat (i - 10 * K) else zm Z 46 i := by
  obtain ⟨a, -⟩ := r_takesParts e Z n t he hK hP hT p2 p38
  obtain ⟨m1, r, hm⟩ := a c
  obtain ⟨m3, r3, u0, u1, u36, u38, u64, hP3⟩ := r_divHead e Z m1 n.toNat _ t (by omega) hK hP hm c.2.2 (by omega) r
  have hn : 0 ≤ n := by rw [← p2]; exact hT.1
  have nz : ¬ qdB t n = 0 := fun z => by
    obtain ⟨v1, -, -, -, -⟩ := qdv t n hn c
    have := (v1 0 (Int.le_refl 0) (by have := qcw_r t n.toNat; omega)).2.2
    rw [z, qbt_0] at this
    exact absurd this (by decide)
  have v12 : m3 37 12 = K := by rw [u1 12 (by decide) (by decide) (by decide), p12]
  have v16 : m3 37 16 = zm Z 37 16 := u1 16 (by decide) (by decide) (by decide)
  have hw := r_hasWords e (qW Z m3) (-1) (by omega) hK hP3 (by rw [qmW, v16]; exact hB)
  rw [qmW, v16, qhwf_e (u0 54 (by decide) (by decide)) (u0 49 (by decide) (by decide)), c4] at hw
  have hd := r_holds e (qW Z m3) 0 (by omega) hK
  rw [qb_p rfl] at hd
  have hd : zD e 182 [vr 37, vi 0] (qW Z m3) = some (.inl (some (vi 1)), qW Z (qu m3 37 0 0)) := hd
  have hlr := qdvl_r t n.toNat
  have hl10 : qdvl t n.toNat ≤ 10 := c.2.2
  have hws := qdvw_s t n.toNat fun j j1 j2 => c.2.1 j j1 (by omega)
  generalize hL : qdvl t n.toNat = L at *
  generalize hV : qdvw t n.toNat = V at *
  generalize hBB : qdB t n = B at *
  have lp : ∀ (k i : Nat) (m : Int → Int → Int), (i : Int) + k = L → (∀ x, x ≠ 46 → m x = qu m3 37 0 0 x) → (∀ j, m 46 j = if 10 * K ≤ j ∧ j < 10 * K + i then V (j - 10 * K) else zm Z 46 j) →
      ∃ m', zF_213 e 62 [vr 37, vi B, vi i] [] (qW Z m) = zF_213 e 96 [vr 37, vi B, vi L] [] (qW Z m') ∧ (∀ x, x ≠ 46 → m' x = qu m3 37 0 0 x) ∧ ∀ j, m' 46 j = if 10 * K ≤ j ∧ j < 10 * K + L then V (j - 10 * K) else zm Z 46 j := by
    intro k
    induction k with
    | zero =>
      intro i m hi f1 f2
      have hi : (i : Int) = L := by omega
      have e36 : m 37 36 = L := by rw [f1 37 (by decide), qu_i _ _ _ _ _ (by decide)]; exact u36
      rw [hi] at f2
      refine ⟨m, ?_, f1, f2⟩
      rw [b213_62]
      simp (config := { maxSteps := 2000000 }) (disch := first | omega | (simp only [K_37 hK, qb_in, qkW, qmW, qnW, true_and, and_true, or_self, true_or, or_true, and_self]; done) | (simp only [K_37 hK, qb_in, qkW, qmW, qnW, true_and, and_true, or_self, true_or, or_true, and_self]; omega)) only [b213_0, b213_4, b213_14, b213_19, b213_23, b213_32, b213_39, b213_44, b213_47, b213_51, b213_52, b213_55, b213_58, b213_60, b213_70, b213_87, b213_114, b213_130, qcall_l, qcall_r, qretn_l, qJ_s, qJ_n, qV0, qEx, ↓qif0, ↓zchk_pos, ↓reduceIte, qput, qWW, qmW, qkW, qnW, K_37 hK, e36, hi, Int.lt_irrefl]
    | succ k ih =>
      intro i m hi f1 f2
      have e36 : m 37 36 = L := by rw [f1 37 (by decide), qu_i _ _ _ _ _ (by decide)]; exact u36
      have e35 : m 37 35 = 64 := by rw [f1 37 (by decide), qu_i _ _ _ _ _ (by decide)]; exact P_37_35 hP3
      have e13 : m 37 13 = 46 := by rw [f1 37 (by decide), qu_i _ _ _ _ _ (by decide)]; exact P_37_13 hP3
      have e12 : m 37 12 = K := by rw [f1 37 (by decide), qu_i _ _ _ _ _ (by decide)]; exact v12
      have e64 : m 64 i = V i := by rw [f1 64 (by decide), qu_o _ _ _ _ _ (by decide)]; exact u64 i (by omega) (by omega)
      have vr_ := hws i (by omega) (by omega)
      have t1 : V i % 65536 = V i := by omega
      obtain ⟨m', r, q⟩ := ih (i + 1) (qu m 46 (10 * K + i) (V i)) (by omega) (fun x x1 => by rw [qu_o _ _ _ _ _ x1, f1 x x1]) (fun j => by
        rw [qu_row]
        show (if j = 10 * K + i then V i else m 46 j) = _
        by_cases q : j = 10 * K + i
        · rw [if_pos q, if_pos (by omega), q, show 10 * K + (i : Int) - 10 * K = i by omega]
        · rw [if_neg q, f2]
          by_cases q2 : 10 * K ≤ j ∧ j < 10 * K + i
          · rw [if_pos q2, if_pos (by omega)]
          · rw [if_neg q2, if_neg (by omega)])
      refine ⟨m', ?_, q⟩
      rw [b213_62]
      simp (config := { maxSteps := 2000000 }) (disch := first | omega | (simp only [K_37 hK, K_46 hK, K_64 hK, e35, e13, qb_in, qkW, qmW, qnW, true_and, and_true, or_self, true_or, or_true, and_self]; done) | (simp only [K_37 hK, K_46 hK, K_64 hK, e35, e13, qb_in, qkW, qmW, qnW, true_and, and_true, or_self, true_or, or_true, and_self]; omega)) only [b213_0, b213_4, b213_14, b213_19, b213_23, b213_32, b213_39, b213_44, b213_47, b213_51, b213_52, b213_55, b213_58, b213_60, b213_70, b213_87, b213_114, b213_130, qcall_l, qcall_r, qretn_l, qJ_s, qJ_n, qV0, qEx, ↓qif0, ↓zchk_pos, ↓reduceIte, qput, qWW, qmW, qkW, qnW, K_37 hK, K_46 hK, K_64 hK, e36, e35, e13, e12, e64, t1, if_pos (show (i : Int) < L by omega), q32]
      exact r
  obtain ⟨m', r4, q1, q2⟩ := lp L.toNat 0 (qu m3 37 0 0) (by omega) (fun _ _ => rfl) (fun j => by rw [if_neg (by omega), qu_o _ _ _ _ _ (by decide), u0 46 (by decide) (by decide)])
  have r4 : zF_213 e 62 [vr 37, vi B, vi 0] [] (qW Z (qu m3 37 0 0)) = zF_213 e 96 [vr 37, vi B, vi L] [] (qW Z m') := r4
  have w37 : ∀ j, j ≠ 0 → m' 37 j = m3 37 j := fun j hj => by rw [q1 37 (by decide), qu_i _ _ _ _ _ hj]
  have w370 : m' 37 0 = 0 := by rw [q1 37 (by decide), qu_s]
  have w14 : m' 37 14 = 47 := by rw [w37 14 (by decide)]; exact P_37_14 hP3
  have w15 : m' 37 15 = 48 := by rw [w37 15 (by decide)]; exact P_37_15 hP3
  have w12 : m' 37 12 = K := by rw [w37 12 (by decide)]; exact v12
  have w36 : m' 37 36 = L := by rw [w37 36 (by decide)]; exact u36
  have x1 : qu m' 47 K L 37 = m' 37 := qu_o _ _ _ _ _ (by decide)
  have x2 : qu (qu m' 47 K L) 48 K B 37 = m' 37 := by rw [qu_o _ _ _ _ _ (by decide), x1]
  have x3 : ∀ j, j ≠ 2 → j ≠ 12 → qu (qu (qu (qu m' 47 K L) 48 K B) 37 12 (K + 1)) 37 2 0 37 j = m' 37 j := fun j j1 j2 => by rw [qu_i _ _ _ _ _ j1, qu_i _ _ _ _ _ j2, x2]
  have x36 := x3 36 (by decide) (by decide)
  rw [w36] at x36
  have tl : zF_213 e 96 [vr 37, vi B, vi L] [] (qW Z m') = some (.inl (some (vi L)), qW Z (qu (qu (qu (qu m' 47 K L) 48 K B) 37 12 (K + 1)) 37 2 0)) := by
    rw [b213_96]
    simp (config := { maxSteps := 2000000 }) (disch := first | omega | (simp only [K_37 hK, K_47 hK, K_48 hK, w14, w15, w12, x1, x2, qb_in, qkW, qmW, qnW, true_and, and_true, or_self, true_or, or_true, and_self]; done) | (simp only [K_37 hK, K_47 hK, K_48 hK, w14, w15, w12, x1, x2, qb_in, qkW, qmW, qnW, true_and, and_true, or_self, true_or, or_true, and_self]; omega)) only [b213_0, b213_4, b213_14, b213_19, b213_23, b213_32, b213_39, b213_44, b213_47, b213_51, b213_52, b213_55, b213_58, b213_60, b213_70, b213_87, b213_96, b213_114, b213_130, qcall_l, qcall_r, qretn_l, qJ_s, qJ_n, qV0, qEx, ↓qif0, ↓zchk_pos, ↓reduceIte, qput, qWW, qmW, qkW, qnW, K_37 hK, K_47 hK, K_48 hK, w14, w15, w12, w36, x1, x2, x36, q32]
  refine ⟨qu (qu (qu (qu m' 47 K L) 48 K B) 37 12 (K + 1)) 37 2 0, ?_, ⟨?_, qu_s _ _ _ _, ?_⟩, fun j j0 j2 j12 j33 j36 j38 => ?_, fun x y1 y2 y3 y4 y5 => ?_, fun i => ?_, fun i => ?_, fun i => ?_⟩
  · rw [r3, ← tl, ← r4]
    simp (config := { maxSteps := 2000000 }) (disch := first | omega | (simp only [K_37 hK, qb_in, qkW, qmW, qnW, true_and, and_true, or_self, true_or, or_true, and_self]; done) | (simp only [K_37 hK, qb_in, qkW, qmW, qnW, true_and, and_true, or_self, true_or, or_true, and_self]; omega)) only [b213_0, b213_4, b213_14, b213_19, b213_23, b213_32, b213_39, b213_44, b213_47, b213_51, b213_52, b213_55, b213_58, b213_60, b213_70, b213_87, b213_114, b213_130, qcall_l, qcall_r, qretn_l, qJ_s, qJ_n, qV0, qEx, ↓qif0, ↓zchk_pos, ↓reduceIte, qput, qWW, qmW, qkW, qnW, K_37 hK, if_neg nz, v12, if_neg (show ¬ K = 12 by omega), u38, if_pos c3, hw, hd, Int.reduceEq]
  · rw [x3 0 (by decide) (by decide), w370]
  · rw [qu_i _ _ _ _ _ (by decide), qu_s]
  · rw [x3 j j2 j12, w37 j j0, u1 j j33 j36 j38]
  · rw [qu_o _ _ _ _ _ y1, qu_o _ _ _ _ _ y1, qu_o _ _ _ _ _ y5, qu_o _ _ _ _ _ y4, q1 x y3, qu_o _ _ _ _ _ y1, u0 x y1 y2]
  · rw [qu_o _ _ _ _ _ (by decide), qu_o _ _ _ _ _ (by decide), qu_o _ _ _ _ _ (by decide), qu_row]
    show (if i = K then L else m' 47 i) = _
    rw [q1 47 (by decide), qu_o _ _ _ _ _ (by decide), u0 47 (by decide) (by decide)]
  · rw [qu_o _ _ _ _ _ (by decide), qu_o _ _ _ _ _ (by decide), qu_row]
    show (if i = K then B else qu m' 47 K L 48 i) = _
    rw [qu_o _ _ _ _ _ (by decide), q1 48 (by decide), qu_o _ _ _ _ _ (by decide), u0 48 (by decide) (by decide)]
  · rw [qu_o _ _ _ _ _ (by decide), qu_o _ _ _ _ _ (by decide), qu_o _ _ _ _ _ (by decide), qu_o _ _ _ _ _ (by decide)]
    exact q2 i
