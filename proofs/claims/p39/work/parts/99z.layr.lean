/-! Laying out, the reference's pieces: numbers, lines, parts. -/
def qnu (v : Int) : Int := if v < 10 then 1 else if v < 100 then 2 else 3
theorem qnu_r (v : Int) : 1 ≤ qnu v ∧ qnu v ≤ 3 := by
  unfold qnu
  repeat' split
  all_goals omega
/-- the cell of a digit -/
def qdg1 (g : Int) : Int := qlc (if g = 0 then 9 else g - 1)
/-- a cell of a number behind its sign -/
def qnc (v p : Int) : Int := if p = 0 then 60 else qdg1 (v / 10 ^ (qnu v - p).toNat % 10)
theorem r_digitsOf (d : Nat) (S : zS) (v : Int) (h : 1 ≤ d) : zD d 258 [vi v] S = some (.inl (some (vi (qnu v))), S) := by
  obtain ⟨e, rfl, -⟩ := qd h
  unfold qnu
  by_cases c1 : v < 10
  · rw [if_pos c1]
    simp (config := { maxSteps := 2000000 }) (disch := first | omega | (simp only [qb_in, qkW, qmW, qnW, true_and, and_true, or_self, true_or, or_true, and_self]; done) | (simp only [qb_in, qkW, qmW, qnW, true_and, and_true, or_self, true_or, or_true, and_self]; omega)) only [zD_258, b258_0, b258_6, b258_10, b258_16, b258_20, b258_21, qcall_l, qcall_r, qretn_l, qJ_s, qJ_n, qV0, qEx, ↓qif0, ↓zchk_pos, ↓reduceIte, qput, qWW, qmW, qkW, qnW, if_pos c1]
  · rw [if_neg c1]
    by_cases c2 : v < 100
    · rw [if_pos c2]
      simp (config := { maxSteps := 2000000 }) (disch := first | omega | (simp only [qb_in, qkW, qmW, qnW, true_and, and_true, or_self, true_or, or_true, and_self]; done) | (simp only [qb_in, qkW, qmW, qnW, true_and, and_true, or_self, true_or, or_true, and_self]; omega)) only [zD_258, b258_0, b258_6, b258_10, b258_16, b258_20, b258_21, qcall_l, qcall_r, qretn_l, qJ_s, qJ_n, qV0, qEx, ↓qif0, ↓zchk_pos, ↓reduceIte, qput, qWW, qmW, qkW, qnW, if_neg c1, if_pos c2]
    · rw [if_neg c2]
      simp (config := { maxSteps := 2000000 }) (disch := first | omega | (simp only [qb_in, qkW, qmW, qnW, true_and, and_true, or_self, true_or, or_true, and_self]; done) | (simp only [qb_in, qkW, qmW, qnW, true_and, and_true, or_self, true_or, or_true, and_self]; omega)) only [zD_258, b258_0, b258_6, b258_10, b258_16, b258_20, b258_21, qcall_l, qcall_r, qretn_l, qJ_s, qJ_n, qV0, qEx, ↓qif0, ↓zchk_pos, ↓reduceIte, qput, qWW, qmW, qkW, qnW, if_neg c1, if_neg c2]
theorem r_cellOfNumber (d : Nat) (S : zS) (v p : Int) (h : 4 ≤ d) (hv : 0 ≤ v ∧ v < 1000) (hp : 0 ≤ p ∧ p ≤ qnu v) : zD d 259 [vi v, vi p] S = some (.inl (some (vi (qnc v p))), S) := by
  obtain ⟨e, rfl, he⟩ := qd h
  have nr := qnu_r v
  have dg := r_digitsOf e S v (by omega)
  have lp : ∀ (f i : Nat) (x0 : zV), (i : Int) + f = qnu v - p → zF_259 e 12 [x0, vi p, vi (qnu v - p), vi (v / 10 ^ i), vi i] [] S = some (.inl (some (vi (qnc v p))), S) := by
    intro f
    induction f with
    | zero =>
      intro i x0 hi
      have hi2 : (qnu v - p).toNat = i := by omega
      have r0 : 0 ≤ v / 10 ^ i := Int.ediv_nonneg hv.1 (Int.pow_nonneg (by decide))
      rw [b259_12]
      unfold qnc
      by_cases c : p = 0
      · rw [if_pos c]
        simp (config := { maxSteps := 2000000 }) (disch := first | omega | (simp only [qb_in, qkW, qmW, qnW, true_and, and_true, or_self, true_or, or_true, and_self]; done) | (simp only [qb_in, qkW, qmW, qnW, true_and, and_true, or_self, true_or, or_true, and_self]; omega)) only [b259_0, b259_4, b259_18, b259_29, b259_33, b259_38, b259_45, qcall_l, qcall_r, qretn_l, qJ_s, qJ_n, qV0, qEx, ↓qif0, ↓zchk_pos, ↓reduceIte, qput, qWW, qmW, qkW, qnW, if_neg (show ¬ (i : Int) < qnu v - p by omega), if_pos c]
      · have tm : Int.tmod (v / 10 ^ i) 10 = v / 10 ^ i % 10 := Int.tmod_eq_emod_of_nonneg r0
        have cd := r_cellOfDigit e S (v / 10 ^ i % 10) (by omega) (by omega)
        rw [if_neg c, hi2]
        simp (config := { maxSteps := 2000000 }) (disch := first | omega | (simp only [qb_in, qkW, qmW, qnW, true_and, and_true, or_self, true_or, or_true, and_self]; done) | (simp only [qb_in, qkW, qmW, qnW, true_and, and_true, or_self, true_or, or_true, and_self]; omega)) only [b259_0, b259_4, b259_18, b259_29, b259_33, b259_38, b259_45, qcall_l, qcall_r, qretn_l, qJ_s, qJ_n, qV0, qEx, ↓qif0, ↓zchk_pos, ↓reduceIte, qput, qWW, qmW, qkW, qnW, if_neg (show ¬ (i : Int) < qnu v - p by omega), if_neg c, tm, cd]
        rfl
    | succ f ih =>
      intro i x0 hi
      have r0 : 0 ≤ v / 10 ^ i := Int.ediv_nonneg hv.1 (Int.pow_nonneg (by decide))
      have r1 : v / 10 ^ i ≤ v := Int.ediv_le_self _ hv.1
      have td : Int.tdiv (v / 10 ^ i) 10 = v / 10 ^ (i + 1) := by
        rw [Int.tdiv_eq_ediv_of_nonneg r0, Int.ediv_ediv_of_nonneg (Int.pow_nonneg (by decide)), Int.pow_succ]
      have r2 : 0 ≤ v / 10 ^ (i + 1) := Int.ediv_nonneg hv.1 (Int.pow_nonneg (by decide))
      have r3 : v / 10 ^ (i + 1) ≤ v := Int.ediv_le_self _ hv.1
      have r := ih (i + 1) vu (by omega)
      rw [b259_12]
      simp (config := { maxSteps := 2000000 }) (disch := first | omega | (simp only [qb_in, qkW, qmW, qnW, true_and, and_true, or_self, true_or, or_true, and_self]; done) | (simp only [qb_in, qkW, qmW, qnW, true_and, and_true, or_self, true_or, or_true, and_self]; omega)) only [b259_0, b259_4, b259_18, b259_29, b259_33, b259_38, b259_45, qcall_l, qcall_r, qretn_l, qJ_s, qJ_n, qV0, qEx, ↓qif0, ↓zchk_pos, ↓reduceIte, qput, qWW, qmW, qkW, qnW, if_pos (show (i : Int) < qnu v - p by omega), td, q32]
      exact r
  have r := lp (qnu v - p).toNat 0 (vi v) (by omega)
  have r : zF_259 e 12 [vi v, vi p, vi (qnu v - p), vi (v / 1), vi 0] [] S = some (.inl (some (vi (qnc v p))), S) := r
  rw [Int.ediv_one] at r
  simp (config := { maxSteps := 2000000 }) (disch := first | omega | (simp only [qb_in, qkW, qmW, qnW, true_and, and_true, or_self, true_or, or_true, and_self]; done) | (simp only [qb_in, qkW, qmW, qnW, true_and, and_true, or_self, true_or, or_true, and_self]; omega)) only [zD_259, b259_0, b259_4, b259_18, b259_29, b259_33, b259_38, b259_45, qcall_l, qcall_r, qretn_l, qJ_s, qJ_n, qV0, qEx, ↓qif0, ↓zchk_pos, ↓reduceIte, qput, qWW, qmW, qkW, qnW, dg, q32]
  exact r
/-- a line begins: forty blanks, its print page -/
theorem r_beginsLine (d : Nat) (S : zS) (p n : Int) (h : 1 ≤ d) (hK : qK S) (hP : qP (zm S)) (h53 : zm S 37 53 = n) (hn : 0 ≤ n ∧ n < 400) :
    ∃ m', zD d 257 [vr 37, vi p] S = some (.inl none, qW S m') ∧ m' 37 53 = n + 1 ∧ (∀ j, j ≠ 53 → m' 37 j = zm S 37 j) ∧ (∀ q, m' 71 q = if 40 * n ≤ q ∧ q < 40 * n + 40 then 0 else zm S 71 q) ∧ (∀ l, m' 72 l = if l = n then p else zm S 72 l) ∧ ∀ x, x ≠ 37 → x ≠ 71 → x ≠ 72 → m' x = zm S x := by
  obtain ⟨e, rfl, -⟩ := qd h
  have lp : ∀ (f i : Nat) (m : Int → Int → Int), i + f = 40 → (∀ q, m 71 q = if 40 * n ≤ q ∧ q < 40 * n + i then 0 else zm S 71 q) → (∀ x, x ≠ 71 → m x = zm S x) →
      ∃ m', zF_257 e 2 [vr 37, vi p, vi i] [] (qW S m) = some (.inl none, qW S m') ∧ m' 37 53 = n + 1 ∧ (∀ j, j ≠ 53 → m' 37 j = zm S 37 j) ∧ (∀ q, m' 71 q = if 40 * n ≤ q ∧ q < 40 * n + 40 then 0 else zm S 71 q) ∧ (∀ l, m' 72 l = if l = n then p else zm S 72 l) ∧ ∀ x, x ≠ 37 → x ≠ 71 → x ≠ 72 → m' x = zm S x := by
    intro f
    induction f with
    | zero =>
      intro i m hi f1 f2
      obtain rfl : i = 40 := by omega
      have m37 : m 37 = zm S 37 := f2 37 (by decide)
      have m53 : m 37 53 = n := by rw [m37, h53]
      have m54 : m 37 54 = 72 := by rw [m37]; exact P_37_54 hP
      have e1 : qu m 72 n p 37 = m 37 := qu_o _ _ _ _ _ (by decide)
      refine ⟨qu (qu m 72 n p) 37 53 (n + 1), ?_, qu_s _ _ _ _, fun j hj => by rw [qu_i _ _ _ _ _ hj, e1, m37], fun q => ?_, fun l => ?_, fun x x1 x2 x3 => by rw [qu_o _ _ _ _ _ x1, qu_o _ _ _ _ _ x3, f2 x x2]⟩
      · rw [b257_2]
        simp (config := { maxSteps := 2000000 }) (disch := first | omega | (simp only [K_37 hK, K_72 hK, m53, m54, e1, qb_in, qkW, qmW, qnW, true_and, and_true, or_self, true_or, or_true, and_self]; done) | (simp only [K_37 hK, K_72 hK, m53, m54, e1, qb_in, qkW, qmW, qnW, true_and, and_true, or_self, true_or, or_true, and_self]; omega)) only [b257_0, b257_8, b257_23, b257_29, b257_45, qcall_l, qcall_r, qretn_l, qJ_s, qJ_n, qV0, qEx, ↓qif0, ↓zchk_pos, ↓reduceIte, qput, qWW, qmW, qkW, qnW, K_37 hK, K_72 hK, if_neg (show ¬ ((40 : Nat) : Int) < 40 by decide), m53, m54, e1, q32]
      · rw [qu_o _ _ _ _ _ (by decide), qu_o _ _ _ _ _ (by decide), f1]
        rfl
      · rw [qu_o _ _ _ _ _ (by decide), qu_row, f2 72 (by decide)]
    | succ f ih =>
      intro i m hi f1 f2
      have m37 : m 37 = zm S 37 := f2 37 (by decide)
      have m53 : m 37 53 = n := by rw [m37, h53]
      have m52 : m 37 52 = 71 := by rw [m37]; exact P_37_52 hP
      have z1 : z32 (40 * n) = 40 * n := q32 (by omega)
      have z2 : z32 (40 * n + (i : Int)) = 40 * n + i := q32 (by omega)
      obtain ⟨m', r, g⟩ := ih (i + 1) (qu m 71 (40 * n + i) 0) (by omega) (fun q => by
        rw [qu_row]
        show (if q = 40 * n + (i : Int) then 0 else m 71 q) = _
        rw [f1]
        by_cases c : q = 40 * n + (i : Int)
        · rw [if_pos c, if_pos (by omega)]
        · rw [if_neg c]
          by_cases c2 : 40 * n ≤ q ∧ q < 40 * n + (i : Int)
          · rw [if_pos c2, if_pos (by omega)]
          · rw [if_neg c2, if_neg (by omega)]) (fun x hx => by rw [qu_o _ _ _ _ _ hx, f2 x hx])
      refine ⟨m', ?_, g⟩
      rw [b257_2]
      simp (config := { maxSteps := 2000000 }) (disch := first | omega | (simp only [K_37 hK, K_71 hK, m53, m52, z1, z2, qb_in, qkW, qmW, qnW, true_and, and_true, or_self, true_or, or_true, and_self]; done) | (simp only [K_37 hK, K_71 hK, m53, m52, z1, z2, qb_in, qkW, qmW, qnW, true_and, and_true, or_self, true_or, or_true, and_self]; omega)) only [b257_0, b257_8, b257_23, b257_29, b257_45, qcall_l, qcall_r, qretn_l, qJ_s, qJ_n, qV0, qEx, ↓qif0, ↓zchk_pos, ↓reduceIte, qput, qWW, qmW, qkW, qnW, K_37 hK, K_71 hK, if_pos (show (i : Int) < 40 by omega), m53, m52, z1, z2, q32]
      exact r
  obtain ⟨m', r, g⟩ := lp 40 0 (zm S) (by omega) (fun q => by rw [if_neg (by omega)]) (fun _ _ => rfl)
  refine ⟨m', ?_, g⟩
  simp (config := { maxSteps := 2000000 }) (disch := first | omega | (simp only [qb_in, qkW, qmW, qnW, true_and, and_true, or_self, true_or, or_true, and_self]; done) | (simp only [qb_in, qkW, qmW, qnW, true_and, and_true, or_self, true_or, or_true, and_self]; omega)) only [zD_257, b257_0, b257_8, b257_23, b257_29, b257_45, qcall_l, qcall_r, qretn_l, qJ_s, qJ_n, qV0, qEx, ↓qif0, ↓zchk_pos, ↓reduceIte, qput, qWW, qmW, qkW, qnW]
  exact r
/-- cells are put into the last line -/
theorem r_puts (d : Nat) (S : zS) (L : List Int) (p a b n : Int) (h : 1 ≤ d) (hK : qK S) (hP : qP (zm S)) (h53 : zm S 37 53 = n) (hn : 1 ≤ n ∧ n ≤ 400) (hL : qA (zm S) 67 L) (hl : L.length ≤ 16) (ha : 0 ≤ a ∧ a ≤ b ∧ b ≤ L.length) (hp : 0 ≤ p ∧ p + (b - a) ≤ 40) :
    ∃ m', zD d 264 [vr 37, vi p, vi a, vi b] S = some (.inl none, qW S m') ∧ (∀ q, m' 71 q = if 40 * (n - 1) + p ≤ q ∧ q < 40 * (n - 1) + p + (b - a) then qnth L (q - (40 * (n - 1) + p) + a) else zm S 71 q) ∧ ∀ x, x ≠ 71 → m' x = zm S x := by
  obtain ⟨e, rfl, -⟩ := qd h
  have lp : ∀ (f : Nat) (i : Int) (m : Int → Int → Int), a ≤ i → i + f = b → (∀ q, m 71 q = if 40 * (n - 1) + p ≤ q ∧ q < 40 * (n - 1) + p + (i - a) then qnth L (q - (40 * (n - 1) + p) + a) else zm S 71 q) → (∀ x, x ≠ 71 → m x = zm S x) →
      ∃ m', zF_264 e 3 [vr 37, vi p, vi a, vi b, vi i] [] (qW S m) = some (.inl none, qW S m') ∧ (∀ q, m' 71 q = if 40 * (n - 1) + p ≤ q ∧ q < 40 * (n - 1) + p + (b - a) then qnth L (q - (40 * (n - 1) + p) + a) else zm S 71 q) ∧ ∀ x, x ≠ 71 → m' x = zm S x := by
    intro f
    induction f with
    | zero =>
      intro i m hi hf f1 f2
      have hib : i = b := by omega
      refine ⟨m, ?_, fun q => by rw [f1, hib], f2⟩
      rw [b264_3]
      simp (config := { maxSteps := 2000000 }) (disch := first | omega | (simp only [qb_in, qkW, qmW, qnW, true_and, and_true, or_self, true_or, or_true, and_self]; done) | (simp only [qb_in, qkW, qmW, qnW, true_and, and_true, or_self, true_or, or_true, and_self]; omega)) only [b264_0, b264_9, b264_24, b264_40, b264_43, qcall_l, qcall_r, qretn_l, qJ_s, qJ_n, qV0, qEx, ↓qif0, ↓zchk_pos, ↓reduceIte, qput, qWW, qmW, qkW, qnW, if_neg (show ¬ i < b by omega)]
    | succ f ih =>
      intro i m hi hf f1 f2
      have m37 : m 37 = zm S 37 := f2 37 (by decide)
      have m53 : m 37 53 = n := by rw [m37, h53]
      have m52 : m 37 52 = 71 := by rw [m37]; exact P_37_52 hP
      have m44 : m 37 44 = 67 := by rw [m37]; exact P_37_44 hP
      have m67 : m 67 i = qnth L i := by rw [f2 67 (by decide)]; exact qA_n hL i (by omega) (by omega)
      have z0 : z32 (n - 1) = n - 1 := q32 (by omega)
      have z1 : z32 (40 * (n - 1)) = 40 * (n - 1) := q32 (by omega)
      have z2 : z32 (40 * (n - 1) + p) = 40 * (n - 1) + p := q32 (by omega)
      have z3 : z32 (40 * (n - 1) + p + i) = 40 * (n - 1) + p + i := q32 (by omega)
      have z4 : z32 (40 * (n - 1) + p + i - a) = 40 * (n - 1) + p + i - a := q32 (by omega)
      obtain ⟨m', r, g⟩ := ih (i + 1) (qu m 71 (40 * (n - 1) + p + i - a) (qnth L i)) (by omega) (by omega) (fun q => by
        rw [qu_row]
        show (if q = 40 * (n - 1) + p + i - a then qnth L i else m 71 q) = _
        rw [f1]
        by_cases c : q = 40 * (n - 1) + p + i - a
        · rw [if_pos c, if_pos (by omega), show q - (40 * (n - 1) + p) + a = i by omega]
        · rw [if_neg c]
          by_cases c2 : 40 * (n - 1) + p ≤ q ∧ q < 40 * (n - 1) + p + (i - a)
          · rw [if_pos c2, if_pos (by omega)]
          · rw [if_neg c2, if_neg (by omega)]) (fun x hx => by rw [qu_o _ _ _ _ _ hx, f2 x hx])
      refine ⟨m', ?_, g⟩
      rw [b264_3]
      simp (config := { maxSteps := 2000000 }) (disch := first | omega | (simp only [K_37 hK, K_71 hK, K_67 hK, m53, m52, m44, z0, z1, z2, z3, z4, qb_in, qkW, qmW, qnW, true_and, and_true, or_self, true_or, or_true, and_self]; done) | (simp only [K_37 hK, K_71 hK, K_67 hK, m53, m52, m44, z0, z1, z2, z3, z4, qb_in, qkW, qmW, qnW, true_and, and_true, or_self, true_or, or_true, and_self]; omega)) only [b264_0, b264_9, b264_24, b264_40, b264_43, qcall_l, qcall_r, qretn_l, qJ_s, qJ_n, qV0, qEx, ↓qif0, ↓zchk_pos, ↓reduceIte, qput, qWW, qmW, qkW, qnW, K_37 hK, K_71 hK, K_67 hK, if_pos (show i < b by omega), m53, m52, m44, m67, z0, z1, z2, z3, z4, q32]
      exact r
  obtain ⟨m', r, g⟩ := lp (b - a).toNat a (zm S) (Int.le_refl _) (by omega) (fun q => by rw [if_neg (by omega)]) (fun _ _ => rfl)
  refine ⟨m', ?_, g⟩
  simp (config := { maxSteps := 2000000 }) (disch := first | omega | (simp only [qb_in, qkW, qmW, qnW, true_and, and_true, or_self, true_or, or_true, and_self]; done) | (simp only [qb_in, qkW, qmW, qnW, true_and, and_true, or_self, true_or, or_true, and_self]; omega)) only [zD_264, b264_0, b264_9, b264_24, b264_40, b264_43, qcall_l, qcall_r, qretn_l, qJ_s, qJ_n, qV0, qEx, ↓qif0, ↓zchk_pos, ↓reduceIte, qput, qWW, qmW, qkW, qnW]
  exact r
/-- a line that tells a print page -/
theorem r_barLine (d : Nat) (S : zS) (w p n : Int) (h : 6 ≤ d) (hK : qK S) (hP : qP (zm S)) (h53 : zm S 37 53 = n) (hn : 0 ≤ n ∧ n < 400) (hw : 18 ≤ w ∧ w ≤ 40) (hp : 0 ≤ p ∧ p < 1000) :
    ∃ m', zD d 260 [vr 37, vi w, vi p] S = some (.inl none, qW S m') ∧ m' 37 53 = n + 1 ∧ (∀ j, j ≠ 53 → m' 37 j = zm S 37 j) ∧ (∀ q, m' 71 q = if 40 * n ≤ q ∧ q < 40 * n + 40 then (if q - 40 * n < w - 1 - qnu p then 36 else if q - 40 * n < w then qnc p (q - 40 * n - (w - 1 - qnu p)) else 0) else zm S 71 q) ∧ (∀ l, m' 72 l = if l = n then p else zm S 72 l) ∧ ∀ x, x ≠ 37 → x ≠ 71 → x ≠ 72 → m' x = zm S x := by
  obtain ⟨e, rfl, he⟩ := qd h
  have nr := qnu_r p
  have dg := r_digitsOf e S p (by omega)
  obtain ⟨M, rM, g1, g2, g3, g4, g5⟩ := r_beginsLine e S p n (by omega) hK hP h53 hn
  have M52 : M 37 52 = 71 := by rw [g2 52 (by decide)]; exact P_37_52 hP
  have z0 : z32 (n + 1 - 1) = n := by rw [q32 (by omega)]; omega
  have z1 : z32 (40 * n) = 40 * n := q32 (by omega)
  have lp : ∀ (f i : Nat) (m : Int → Int → Int), (i : Int) + f = w → (∀ q, m 71 q = if 40 * n ≤ q ∧ q < 40 * n + i then (if q - 40 * n < w - 1 - qnu p then 36 else qnc p (q - 40 * n - (w - 1 - qnu p))) else M 71 q) → (∀ x, x ≠ 71 → m x = M x) →
      ∃ m', zF_260 e 17 [vr 37, vi w, vi p, vi (w - 1 - qnu p), vi i] [] (qW S m) = some (.inl none, qW S m') ∧ (∀ q, m' 71 q = if 40 * n ≤ q ∧ q < 40 * n + w then (if q - 40 * n < w - 1 - qnu p then 36 else qnc p (q - 40 * n - (w - 1 - qnu p))) else M 71 q) ∧ ∀ x, x ≠ 71 → m' x = M x := by
    intro f
    induction f with
    | zero =>
      intro i m hi f1 f2
      refine ⟨m, ?_, fun q => by rw [f1, show (i : Int) = w by omega], f2⟩
      rw [b260_17]
      simp (config := { maxSteps := 2000000 }) (disch := first | omega | (simp only [qb_in, qkW, qmW, qnW, true_and, and_true, or_self, true_or, or_true, and_self]; done) | (simp only [qb_in, qkW, qmW, qnW, true_and, and_true, or_self, true_or, or_true, and_self]; omega)) only [b260_0, b260_7, b260_14, b260_23, b260_39, b260_45, b260_50, b260_58, b260_65, qcall_l, qcall_r, qretn_l, qJ_s, qJ_n, qV0, qEx, ↓qif0, ↓zchk_pos, ↓reduceIte, qput, qWW, qmW, qkW, qnW, if_neg (show ¬ (i : Int) < w by omega)]
    | succ f ih =>
      intro i m hi f1 f2
      have m37 : m 37 = M 37 := f2 37 (by decide)
      have m53 : m 37 53 = n + 1 := by rw [m37, g1]
      have m52 : m 37 52 = 71 := by rw [m37, M52]
      have z2 : z32 (40 * n + (i : Int)) = 40 * n + i := q32 (by omega)
      obtain ⟨v, hv⟩ : ∃ v, (if (i : Int) < w - 1 - qnu p then 36 else qnc p ((i : Int) - (w - 1 - qnu p))) = v := ⟨_, rfl⟩
      obtain ⟨m', r, g⟩ := ih (i + 1) (qu m 71 (40 * n + i) v) (by omega) (fun q => by
        rw [qu_row]
        show (if q = 40 * n + (i : Int) then v else m 71 q) = _
        rw [f1]
        by_cases c : q = 40 * n + (i : Int)
        · rw [if_pos c, if_pos (by omega), show q - 40 * n = (i : Int) by omega, hv]
        · rw [if_neg c]
          by_cases c2 : 40 * n ≤ q ∧ q < 40 * n + (i : Int)
          · rw [if_pos c2, if_pos (show 40 * n ≤ q ∧ q < 40 * n + ((i + 1 : Nat) : Int) by omega)]
          · rw [if_neg c2, if_neg (by omega)]) (fun x hx => by rw [qu_o _ _ _ _ _ hx, f2 x hx])
      refine ⟨m', ?_, g⟩
      rw [b260_17]
      by_cases c : (i : Int) < w - 1 - qnu p
      · rw [if_pos c] at hv
        subst hv
        simp (config := { maxSteps := 2000000 }) (disch := first | omega | (simp only [K_37 hK, K_71 hK, m53, m52, z0, z1, z2, qb_in, qkW, qmW, qnW, true_and, and_true, or_self, true_or, or_true, and_self]; done) | (simp only [K_37 hK, K_71 hK, m53, m52, z0, z1, z2, qb_in, qkW, qmW, qnW, true_and, and_true, or_self, true_or, or_true, and_self]; omega)) only [b260_0, b260_7, b260_14, b260_23, b260_39, b260_45, b260_50, b260_58, b260_65, qcall_l, qcall_r, qretn_l, qJ_s, qJ_n, qV0, qEx, ↓qif0, ↓zchk_pos, ↓reduceIte, qput, qWW, qmW, qkW, qnW, K_37 hK, K_71 hK, if_pos (show (i : Int) < w by omega), m53, m52, z0, z1, z2, if_pos c, q32]
        exact r
      · rw [if_neg c] at hv
        subst hv
        have zi : z32 ((i : Int) - (w - 1 - qnu p)) = (i : Int) - (w - 1 - qnu p) := q32 (by omega)
        have cn := r_cellOfNumber e (qW S m) p ((i : Int) - (w - 1 - qnu p)) (by omega) hp (by omega)
        simp (config := { maxSteps := 2000000 }) (disch := first | omega | (simp only [K_37 hK, K_71 hK, m53, m52, z0, z1, z2, zi, qb_in, qkW, qmW, qnW, true_and, and_true, or_self, true_or, or_true, and_self]; done) | (simp only [K_37 hK, K_71 hK, m53, m52, z0, z1, z2, zi, qb_in, qkW, qmW, qnW, true_and, and_true, or_self, true_or, or_true, and_self]; omega)) only [b260_0, b260_7, b260_14, b260_23, b260_39, b260_45, b260_50, b260_58, b260_65, qcall_l, qcall_r, qretn_l, qJ_s, qJ_n, qV0, qEx, ↓qif0, ↓zchk_pos, ↓reduceIte, qput, qWW, qmW, qkW, qnW, K_37 hK, K_71 hK, if_pos (show (i : Int) < w by omega), m53, m52, z0, z1, z2, if_neg c, zi, cn, q32]
        exact r
  obtain ⟨m', r, f1, f2⟩ := lp w.toNat 0 M (by omega) (fun q => by rw [if_neg (by omega)]) (fun _ _ => rfl)
  refine ⟨m', ?_, by rw [f2 37 (by decide), g1], fun j hj => by rw [f2 37 (by decide), g2 j hj], fun q => ?_, fun l => by rw [f2 72 (by decide), g4], fun x x1 x2 x3 => by rw [f2 x x2, g5 x x1 x2 x3]⟩
  · have za : z32 (w - 1) = w - 1 := q32 (by omega)
    have zb : z32 (w - 1 - qnu p) = w - 1 - qnu p := q32 (by omega)
    simp (config := { maxSteps := 2000000 }) (disch := first | omega | (simp only [K_37 hK, za, zb, qb_in, qkW, qmW, qnW, true_and, and_true, or_self, true_or, or_true, and_self]; done) | (simp only [K_37 hK, za, zb, qb_in, qkW, qmW, qnW, true_and, and_true, or_self, true_or, or_true, and_self]; omega)) only [zD_260, b260_0, b260_7, b260_14, b260_23, b260_39, b260_45, b260_50, b260_58, b260_65, qcall_l, qcall_r, qretn_l, qJ_s, qJ_n, qV0, qEx, ↓qif0, ↓zchk_pos, ↓reduceIte, qput, qWW, qmW, qkW, qnW, K_37 hK, dg, za, zb, rM]
    exact r
  · rw [f1, g3]
    by_cases c : 40 * n ≤ q ∧ q < 40 * n + w
    · rw [if_pos c, if_pos (show 40 * n ≤ q ∧ q < 40 * n + 40 by omega)]
      by_cases c2 : q - 40 * n < w - 1 - qnu p
      · rw [if_pos c2, if_pos c2]
      · rw [if_neg c2, if_neg c2, if_pos (by omega)]
    · rw [if_neg c]
      by_cases c2 : 40 * n ≤ q ∧ q < 40 * n + 40
      · rw [if_pos c2, if_pos c2, if_neg (by omega), if_neg (by omega)]
      · rw [if_neg c2, if_neg c2]
