/-! Cells are put into a book. -/
theorem qixm {w a b : Int} (h0 : 0 ≤ w) (h : a < b) : a * w + w ≤ b * w := by
  have := Int.mul_le_mul_of_nonneg_right (show a + 1 ≤ b by omega) h0
  rw [Int.add_mul, Int.one_mul] at this
  exact this
theorem qix {w r c r' c' : Int} (h0 : 0 ≤ c ∧ c < w) (h1 : 0 ≤ c' ∧ c' < w) (h : r * w + c = r' * w + c') : r = r' ∧ c = c' := by
  rcases Int.lt_trichotomy r r' with q | q | q
  · have := qixm (w := w) (by omega) q
    omega
  · subst q
    exact ⟨rfl, by omega⟩
  · have := qixm (w := w) (by omega) q
    omega
def qpi (v : Int) : Int := (qpc 24 v.toNat : Nat)
theorem qpi_r (v : Int) : 0 ≤ qpi v ∧ qpi v ≤ 24 := by
  have := qpc_le 24 v.toNat
  unfold qpi
  omega
theorem qpi_0 : qpi 0 = 0 := by
  unfold qpi
  rw [show (0 : Int).toNat = 0 from rfl, qpc_0]
  rfl
def qsum (f : Int → Int) : Nat → Int
  | 0 => 0
  | k + 1 => qsum f k + qpi (f k)
theorem qsum_r (f : Int → Int) : ∀ k : Nat, 0 ≤ qsum f k ∧ qsum f k ≤ 24 * k := by
  intro k
  induction k with
  | zero => exact ⟨Int.le_refl _, Int.le_refl _⟩
  | succ k ih =>
    have := qpi_r (f k)
    rw [qsum]
    omega
theorem qsum_c {f g : Int → Int} : ∀ k : Nat, (∀ i : Int, 0 ≤ i → i < k → f i = g i) → qsum f k = qsum g k := by
  intro k
  induction k with
  | zero => intro _; rfl
  | succ k ih =>
    intro h
    rw [qsum, qsum, ih fun i i1 i2 => h i i1 (by omega), h k (by omega) (by omega)]
theorem qsum_u {f g : Int → Int} {x v : Int} (h0 : f x = 0) (h1 : g x = v) (h2 : ∀ i, i ≠ x → g i = f i) (hx : 0 ≤ x) : ∀ k : Nat, qsum g k = qsum f k + if x < k then qpi v else 0 := by
  intro k
  induction k with
  | zero => rw [if_neg (by omega)]; rfl
  | succ k ih =>
    rw [qsum, qsum, ih]
    by_cases c : x = k
    · rw [if_neg (by omega), if_pos (by omega), ← c, h0, h1, qpi_0]
    · rw [h2 k (by omega)]
      by_cases c2 : x < k
      · rw [if_pos c2, if_pos (by omega)]
        omega
      · rw [if_neg c2, if_neg (by omega)]
        omega
/-- a book's own shape -/
def qBk (S : zS) (x w t : Int) : Prop := (zk S x = (20, 0) ∧ zk S (x + 2) = (3, qbl w t)) ∧ (18 ≤ w ∧ w ≤ 40) ∧ (3 ≤ t ∧ t ≤ 25) ∧ 103 ≤ x
def qBd (m : Int → Int → Int) (x w t : Int) : Prop := m x 12 = qsum (m (x + 2)) (qbl w t).toNat ∧ ∀ q, 0 ≤ m (x + 2) q ∧ m (x + 2) q < 64
/-- where the next cell goes -/
def qPs (m : Int → Int → Int) (x w t P l c : Int) : Prop := (m x 3 = w ∧ m x 4 = t ∧ m x 8 = x + 2) ∧ (m x 9 = P ∧ m x 16 = l ∧ m x 17 = c) ∧ qBd m x w t
def qPL (m m' : Int → Int → Int) (x o c : Int) (K : List Int) : Prop := (∀ q, m' (x + 2) q = if o ≤ q ∧ q < o + K.length then qnth K (q - o) else m (x + 2) q) ∧ m' x 17 = c ∧ (∀ j, j ≠ 12 → j ≠ 17 → m' x j = m x j) ∧ ∀ y, y ≠ x → y ≠ x + 2 → m' y = m y
theorem qPL_t {m m1 m2 : Int → Int → Int} {x o o2 c1 c2 : Int} {K1 K2 : List Int} (h : qPL m m1 x o c1 K1) (g : qPL m1 m2 x o2 c2 K2) (ho : o2 = o + K1.length) : qPL m m2 x o c2 (K1 ++ K2) := by
  obtain ⟨h1, h2, h3, h4⟩ := h
  obtain ⟨g1, g2, g3, g4⟩ := g
  refine ⟨fun q => ?_, g2, fun j j1 j2 => (g3 j j1 j2).trans (h3 j j1 j2), fun y y1 y2 => (g4 y y1 y2).trans (h4 y y1 y2)⟩
  rw [g1, h1, List.length_append]
  by_cases c : o2 ≤ q ∧ q < o2 + K2.length
  · rw [if_pos c, if_pos (by omega), qnth_r _ _ _ (by omega), show q - o - (K1.length : Int) = q - o2 by omega]
  · rw [if_neg c]
    by_cases c3 : o ≤ q ∧ q < o + K1.length
    · rw [if_pos c3, if_pos (by omega), qnth_l _ _ _ (by omega)]
    · rw [if_neg c3, if_neg (by omega)]
theorem qPL_c {m m' : Int → Int → Int} {x o c : Int} {K K' : List Int} (h : qPL m m' x o c K) (e : K = K') : qPL m m' x o c K' := e ▸ h
theorem qPL_0 (m : Int → Int → Int) (x o c : Int) (h : m x 17 = c) : qPL m m x o c [] := ⟨fun q => by rw [if_neg (by show ¬ (o ≤ q ∧ q < o + ((0 : Nat) : Int)); omega)], h, fun _ _ _ => rfl, fun _ _ _ => rfl⟩
/-- a row has room -/
theorem qrow {w t P l c : Int} (hw : 18 ≤ w ∧ w ≤ 40) (ht : 3 ≤ t ∧ t ≤ 25) (hP : 1 ≤ P ∧ P ≤ qmp t) (hl : 0 ≤ l ∧ l < t) (hc : 0 ≤ c ∧ c < w) : (0 ≤ (P - 1) * t ∧ (P - 1) * t ≤ 363) ∧ (0 ≤ ((P - 1) * t + l) * w ∧ ((P - 1) * t + l) * w + w ≤ qbl w t) := by
  obtain ⟨q1, q2, q3, q4, -⟩ := qmp_r ht
  have a1 : 0 ≤ (P - 1) * t := Int.mul_nonneg (by omega) (by omega)
  have a2 : (P - 1) * t + t ≤ qmp t * t := qixm (by omega) (by omega)
  refine ⟨⟨a1, by omega⟩, Int.mul_nonneg (by omega) (by omega), ?_⟩
  exact qixm (by omega) (by omega)
theorem s_indexOf (d : Nat) (S : zS) (x w t p l c : Int) (h : 1 ≤ d) (kx : zk S x = (20, 0)) (x3 : zm S x 3 = w) (x4 : zm S x 4 = t) (h1 : 0 ≤ p * t ∧ p * t ≤ 100000) (h2 : 0 ≤ l ∧ l < 1000) (h3 : 0 ≤ (p * t + l) * w ∧ (p * t + l) * w ≤ 1000000) (h4 : -1000 ≤ c ∧ c < 1000000) :
    zD d 3 [vr x, vi p, vi l, vi c] S = some (.inl (some (vi ((p * t + l) * w + c))), S) := by
  obtain ⟨e, rfl, -⟩ := qd h
  have z1 : z32 (p * t) = p * t := q32 (by omega)
  have z2 : z32 (p * t + l) = p * t + l := q32 (by omega)
  have z3 : z32 ((p * t + l) * w) = (p * t + l) * w := q32 (by omega)
  have z4 : z32 ((p * t + l) * w + c) = (p * t + l) * w + c := q32 (by omega)
  simp (config := { maxSteps := 2000000 }) (disch := first | omega | (simp only [kx, qb_in, qkW, qmW, qnW, true_and, and_true, or_self, true_or, or_true, and_self]; done) | (simp only [kx, qb_in, qkW, qmW, qnW, true_and, and_true, or_self, true_or, or_true, and_self]; omega)) only [zD_3, b3_0, b3_14, qcall_l, qcall_r, qretn_l, qJ_s, qJ_n, qV0, qEx, ↓qif0, ↓zchk_pos, ↓reduceIte, qput, qWW, qmW, qkW, qnW, kx, x3, x4, z1, z2, z3, z4]
theorem s_put (d : Nat) (S : zS) (m : Int → Int → Int) (x w t P l c v : Int) (h : 2 ≤ d) (hk : qBk S x w t) (hs : qPs m x w t P l c) (hP : 1 ≤ P ∧ P ≤ qmp t) (hl : 0 ≤ l ∧ l < t) (hc : 0 ≤ c ∧ c < w) (hv : 0 ≤ v ∧ v < 64) (h0 : m (x + 2) (((P - 1) * t + l) * w + c) = 0) :
    ∃ m', zD d 6 [vr x, vi v] (qW S m) = some (.inl none, qW S m') ∧ qPL m m' x (((P - 1) * t + l) * w + c) (c + 1) [v] ∧ qPs m' x w t P l (c + 1) := by
  obtain ⟨e, rfl, he⟩ := qd h
  obtain ⟨⟨kx, kc⟩, hw, ht, hx⟩ := hk
  obtain ⟨⟨x3, x4, x8⟩, ⟨x9, x16, x17⟩, d1, d2⟩ := hs
  obtain ⟨r1, r2⟩ := qrow hw ht hP hl hc
  obtain ⟨b1, b2⟩ := qbl_r ht hw
  obtain ⟨o, ho⟩ : ∃ o, ((P - 1) * t + l) * w + c = o := ⟨_, rfl⟩
  have io := s_indexOf e (qW S m) x w t (P - 1) l c (by omega) kx x3 x4 (by omega) (by omega) (by omega) (by omega)
  rw [ho] at io h0 ⊢
  have ol : 0 ≤ o ∧ o < qbl w t := by omega
  have z1 : z32 (P - 1) = P - 1 := q32 (by have := (qmp_r ht).2.1; omega)
  have sr := qsum_r (m (x + 2)) (qbl w t).toNat
  have pr := qpi_r v
  have bc := s_bitCount e v.toNat (qW S (qu m (x + 2) o v)) (by omega) (by omega)
  rw [show ((v.toNat : Nat) : Int) = v by omega] at bc
  have bc : zD e 306 [vi v] (qW S (qu m (x + 2) o v)) = some (.inl (some (vi (qpi v))), qW S (qu m (x + 2) o v)) := bc
  obtain ⟨M1, e1⟩ : ∃ M1, qu m (x + 2) o v = M1 := ⟨_, rfl⟩
  rw [e1] at bc
  have f1 : M1 x = m x := by rw [← e1, qu_o _ _ _ _ _ (by omega)]
  have z2 : z32 (m x 12 + qpi v) = m x 12 + qpi v := q32 (by omega)
  have z3 : z32 (c + 1) = c + 1 := q32 (by omega)
  obtain ⟨M2, e2⟩ : ∃ M2, qu M1 x 12 (m x 12 + qpi v) = M2 := ⟨_, rfl⟩
  have f2 : M2 x 17 = c := by rw [← e2, qu_i _ _ _ _ _ (by decide), f1, x17]
  obtain ⟨M3, e3⟩ : ∃ M3, qu M2 x 17 (c + 1) = M3 := ⟨_, rfl⟩
  have g2 : ∀ q, M3 (x + 2) q = if q = o then v else m (x + 2) q := fun q => by rw [← e3, qu_o _ _ _ _ _ (by omega), ← e2, qu_o _ _ _ _ _ (by omega), ← e1, qu_row]
  have gx : ∀ j, j ≠ 12 → j ≠ 17 → M3 x j = m x j := fun j j1 j2 => by rw [← e3, qu_i _ _ _ _ _ j2, ← e2, qu_i _ _ _ _ _ j1, f1]
  refine ⟨M3, ?_, ⟨fun q => ?_, by rw [← e3, qu_s], gx, fun y y1 y2 => by rw [← e3, qu_o _ _ _ _ _ y1, ← e2, qu_o _ _ _ _ _ y1, ← e1, qu_o _ _ _ _ _ y2]⟩, ⟨by rw [gx 3 (by decide) (by decide)]; exact x3, by rw [gx 4 (by decide) (by decide)]; exact x4, by rw [gx 8 (by decide) (by decide)]; exact x8⟩, ⟨by rw [gx 9 (by decide) (by decide)]; exact x9, by rw [gx 16 (by decide) (by decide)]; exact x16, by rw [← e3, qu_s]⟩, ?_, fun q => ?_⟩
  · have vb : ((v + 128) % 256 - 128 + 128) % 256 - 128 = v := by omega
    simp (config := { maxSteps := 2000000 }) (disch := first | omega | (simp only [kx, kc, x8, f1, qb_in, qkW, qmW, qnW, true_and, and_true, or_self, true_or, or_true, and_self]; done) | (simp only [kx, kc, x8, f1, qb_in, qkW, qmW, qnW, true_and, and_true, or_self, true_or, or_true, and_self]; omega)) only [zD_6, b6_0, b6_18, b6_23, b6_32, b6_46, b6_49, b6_53, qcall_l, qcall_r, qretn_l, qJ_s, qJ_n, qV0, qEx, ↓qif0, ↓zchk_pos, ↓reduceIte, qput, qWW, qmW, qkW, qnW, kx, kc, x8, x9, x16, x17, z1, io, if_neg (show ¬ o < 0 by omega), if_pos ol.2, vb, e1, f1, bc, z2, e2, f2, z3, e3]
  · rw [g2]
    show _ = if o ≤ q ∧ q < o + ((1 : Nat) : Int) then qnth [v] (q - o) else m (x + 2) q
    by_cases c1 : q = o
    · rw [if_pos c1, if_pos (by omega), c1, Int.sub_self]
      rfl
    · rw [if_neg c1, if_neg (by omega)]
  · rw [← e3, qu_i _ _ _ _ _ (by decide), ← e2, qu_s, e2, e3, qsum_u (f := m (x + 2)) (g := M3 (x + 2)) (x := o) (v := v) h0 (by rw [g2, if_pos rfl]) (fun i hi => by rw [g2, if_neg hi]) ol.1, if_pos (by omega), d1]
  · rw [g2]
    split
    · exact hv
    · exact d2 q
/-- a number, its sign ahead -/
def qnl (v : Int) : List Int := qlf (fun i => qnc v i) (qnu v + 1).toNat
theorem qnl_l (v : Int) : ((qnl v).length : Int) = qnu v + 1 := by
  have := qnu_r v
  unfold qnl
  rw [qlf_l]
  omega
theorem qnl_n (v i : Int) (h : 0 ≤ i ∧ i ≤ qnu v) : qnth (qnl v) i = qnc v i := by
  have := qnu_r v
  exact qlf_n _ _ i h.1 (by omega)
theorem qnc_0 (v : Int) : qnc v 0 = 60 := if_pos rfl
theorem qnc_p (v p : Int) (k : Nat) (h : p ≠ 0) (hk : (qnu v - p).toNat = k) : qnc v p = qdg1 (v / 10 ^ k % 10) := by
  unfold qnc
  rw [if_neg h, hk]
theorem s_putNumber (d : Nat) (S : zS) (m : Int → Int → Int) (x w t P l c v : Int) (h : 3 ≤ d) (hK : qK S) (hL : qLt m) (hk : qBk S x w t) (hs : qPs m x w t P l c) (hP : 1 ≤ P ∧ P ≤ qmp t) (hl : 0 ≤ l ∧ l < t) (hc : 0 ≤ c ∧ c + qnu v + 1 ≤ w) (hv : 0 ≤ v ∧ v < 1000) (h0 : ∀ i, c ≤ i → i < w → m (x + 2) (((P - 1) * t + l) * w + i) = 0) :
    ∃ m', zD d 7 [vr x, vi v] (qW S m) = some (.inl none, qW S m') ∧ qPL m m' x (((P - 1) * t + l) * w + c) (c + qnu v + 1) (qnl v) ∧ qPs m' x w t P l (c + qnu v + 1) := by
  obtain ⟨e, rfl, he⟩ := qd h
  obtain ⟨⟨kx, kc⟩, hw, ht, hx⟩ := hk
  have hk : qBk S x w t := ⟨⟨kx, kc⟩, hw, ht, hx⟩
  have nr := qnu_r v
  have go : ∀ (m1 : Int → Int → Int) (c1 u : Int), (∀ y, y ≠ x → y ≠ x + 2 → m1 y = m y) → (∀ i, c1 ≤ i → i < w → m1 (x + 2) (((P - 1) * t + l) * w + i) = 0) → qPs m1 x w t P l c1 → 0 ≤ c1 ∧ c1 < w → 0 ≤ u ∧ u < 64 → ∃ m2, zD e 6 [vr x, vi u] (qW S m1) = some (.inl none, qW S m2) ∧ qPL m1 m2 x (((P - 1) * t + l) * w + c1) (c1 + 1) [u] ∧ qPs m2 x w t P l (c1 + 1) ∧ (∀ y, y ≠ x → y ≠ x + 2 → m2 y = m y) ∧ ∀ i, c1 + 1 ≤ i → i < w → m2 (x + 2) (((P - 1) * t + l) * w + i) = 0 := by
    intro m1 c1 u g1 g2 g3 g4 g5
    obtain ⟨m2, r, p1, p2⟩ := s_put e S m1 x w t P l c1 u (by omega) hk g3 hP hl g4 g5 (g2 c1 (Int.le_refl _) g4.2)
    refine ⟨m2, r, p1, p2, fun y y1 y2 => (p1.2.2.2 y y1 y2).trans (g1 y y1 y2), fun i i1 i2 => ?_⟩
    rw [p1.1, if_neg (by show ¬ (_ ∧ _ < _ + ((1 : Nat) : Int)); omega)]
    exact g2 i (by omega) i2
  have dc : ∀ (m1 : Int → Int → Int) (g : Int), (∀ y, y ≠ x → y ≠ x + 2 → m1 y = m y) → 0 ≤ g ∧ g < 10 → zD e 174 [vi g] (qW S m1) = some (.inl (some (vi (qdg1 g))), qW S m1) := fun m1 g g1 g2 => s_digitCell e (qW S m1) g (by omega) (by omega) hK (fun q hq => by show m1 2 q.1 = q.2; rw [g1 2 (by omega) (by omega)]; exact hL q hq)
  have dr : ∀ g : Int, 0 ≤ qdg1 g ∧ qdg1 g < 64 := fun g => qlc_r _
  have td : ∀ u : Int, Int.tdiv v u = v / u := fun u => Int.tdiv_eq_ediv_of_nonneg hv.1
  have tm : ∀ u : Int, 0 < u → Int.tmod (v / u) 10 = v / u % 10 := fun u hu => Int.tmod_eq_emod_of_nonneg (Int.ediv_nonneg hv.1 (by omega))
  have zz : ∀ u : Int, 0 < u → z32 (v / u) = v / u := fun u hu => q32 (by have := Int.ediv_nonneg hv.1 (show 0 ≤ u by omega); have := Int.ediv_le_self u hv.1; omega)
  obtain ⟨m1, r1, p1, s1, y1, o1⟩ := go m c 60 (fun _ _ _ => rfl) h0 hs (by omega) (by decide)
  by_cases v1 : v < 10
  · have nu : qnu v = 1 := if_pos v1
    have e1 : qnc v 1 = qdg1 (v / 1 % 10) := qnc_p v 1 0 (by decide) (by rw [nu]; rfl)
    have el : qnl v = [60] ++ [qdg1 (v / 1 % 10)] := by
      unfold qnl
      rw [nu, ← e1, ← qnc_0 v]
      rfl
    have b1 := dc m1 (v / 1 % 10) y1 (by omega)
    obtain ⟨m2, r2, p2, s2, y2, o2⟩ := go m1 (c + 1) (qdg1 (v / 1 % 10)) y1 o1 s1 (by omega) (dr _)
    rw [nu] at hc ⊢
    refine ⟨m2, ?_, by rw [el]; exact qPL_t p1 p2 (by show _ = _ + ((1 : Nat) : Int); omega), s2⟩
    simp (config := { maxSteps := 2000000 }) (disch := first | omega | (simp only [kx, ne_eq, Int.reduceEq, not_false_eq_true, qb_in, qkW, qmW, qnW, true_and, and_true, or_self, true_or, or_true, and_self]; done) | (simp only [kx, ne_eq, Int.reduceEq, not_false_eq_true, qb_in, qkW, qmW, qnW, true_and, and_true, or_self, true_or, or_true, and_self]; omega)) only [zD_7, b7_0, b7_6, b7_15, b7_23, b7_38, b7_48, b7_51, b7_59, qcall_l, qcall_r, qretn_l, qJ_s, qJ_n, qV0, qEx, ↓qif0, ↓zchk_pos, ↓reduceIte, qput, qWW, qmW, qkW, qnW, b7_10, b7_34, kx, r1, td, zz 10 (by decide), zz 1 (by decide), tm 1 (by decide), b1, r2, Int.reduceLT, show Int.tdiv 1 10 = 0 from rfl, show z32 0 = 0 from rfl, (show v / 10 < 1 by omega)]
  by_cases v2 : v < 100
  · have nu : qnu v = 2 := by unfold qnu; rw [if_neg v1, if_pos v2]
    have e1 : qnc v 1 = qdg1 (v / 10 % 10) := qnc_p v 1 1 (by decide) (by rw [nu]; rfl)
    have e2 : qnc v 2 = qdg1 (v / 1 % 10) := qnc_p v 2 0 (by decide) (by rw [nu]; rfl)
    have el : qnl v = ([60] ++ [qdg1 (v / 10 % 10)]) ++ [qdg1 (v / 1 % 10)] := by
      unfold qnl
      rw [nu, ← e1, ← e2, ← qnc_0 v]
      rfl
    have b1 := dc m1 (v / 10 % 10) y1 (by omega)
    obtain ⟨m2, r2, p2, s2, y2, o2⟩ := go m1 (c + 1) (qdg1 (v / 10 % 10)) y1 o1 s1 (by omega) (dr _)
    have b2 := dc m2 (v / 1 % 10) y2 (by omega)
    obtain ⟨m3, r3, p3, s3, y3, o3⟩ := go m2 (c + 1 + 1) (qdg1 (v / 1 % 10)) y2 o2 s2 (by omega) (dr _)
    rw [nu] at hc ⊢
    rw [show c + 2 + 1 = c + 1 + 1 + 1 by omega]
    refine ⟨m3, ?_, by rw [el]; exact qPL_t (qPL_t p1 p2 (by show _ = _ + ((1 : Nat) : Int); omega)) p3 (by show _ = _ + ((2 : Nat) : Int); omega), s3⟩
    simp (config := { maxSteps := 2000000 }) (disch := first | omega | (simp only [kx, ne_eq, Int.reduceEq, not_false_eq_true, qb_in, qkW, qmW, qnW, true_and, and_true, or_self, true_or, or_true, and_self]; done) | (simp only [kx, ne_eq, Int.reduceEq, not_false_eq_true, qb_in, qkW, qmW, qnW, true_and, and_true, or_self, true_or, or_true, and_self]; omega)) only [zD_7, b7_0, b7_6, b7_15, b7_23, b7_38, b7_48, b7_51, b7_59, qcall_l, qcall_r, qretn_l, qJ_s, qJ_n, qV0, qEx, ↓qif0, ↓zchk_pos, ↓reduceIte, qput, qWW, qmW, qkW, qnW, b7_10, b7_34, kx, r1, td, zz 10 (by decide), zz 1 (by decide), tm 10 (by decide), tm 1 (by decide), b1, r2, b2, r3, Int.reduceLT, show Int.tdiv 1 10 = 0 from rfl, show Int.tdiv 10 10 = 1 from rfl, show z32 0 = 0 from rfl, show z32 1 = 1 from rfl, show z32 (1 * 10) = 10 from rfl, show z32 (0 + 1) = 1 from rfl, (show ¬ v / 10 < 1 by omega), (show v / 10 < 10 by omega)]
  · have nu : qnu v = 3 := by unfold qnu; rw [if_neg v1, if_neg v2]
    have e1 : qnc v 1 = qdg1 (v / 100 % 10) := qnc_p v 1 2 (by decide) (by rw [nu]; rfl)
    have e2 : qnc v 2 = qdg1 (v / 10 % 10) := qnc_p v 2 1 (by decide) (by rw [nu]; rfl)
    have e3 : qnc v 3 = qdg1 (v / 1 % 10) := qnc_p v 3 0 (by decide) (by rw [nu]; rfl)
    have el : qnl v = (([60] ++ [qdg1 (v / 100 % 10)]) ++ [qdg1 (v / 10 % 10)]) ++ [qdg1 (v / 1 % 10)] := by
      unfold qnl
      rw [nu, ← e1, ← e2, ← e3, ← qnc_0 v]
      rfl
    have b1 := dc m1 (v / 100 % 10) y1 (by omega)
    obtain ⟨m2, r2, p2, s2, y2, o2⟩ := go m1 (c + 1) (qdg1 (v / 100 % 10)) y1 o1 s1 (by omega) (dr _)
    have b2 := dc m2 (v / 10 % 10) y2 (by omega)
    obtain ⟨m3, r3, p3, s3, y3, o3⟩ := go m2 (c + 1 + 1) (qdg1 (v / 10 % 10)) y2 o2 s2 (by omega) (dr _)
    have b3 := dc m3 (v / 1 % 10) y3 (by omega)
    obtain ⟨m4, r4, p4, s4, y4, o4⟩ := go m3 (c + 1 + 1 + 1) (qdg1 (v / 1 % 10)) y3 o3 s3 (by omega) (dr _)
    rw [nu] at hc ⊢
    rw [show c + 3 + 1 = c + 1 + 1 + 1 + 1 by omega]
    refine ⟨m4, ?_, by rw [el]; exact qPL_t (qPL_t (qPL_t p1 p2 (by show _ = _ + ((1 : Nat) : Int); omega)) p3 (by show _ = _ + ((2 : Nat) : Int); omega)) p4 (by show _ = _ + ((3 : Nat) : Int); omega), s4⟩
    simp (config := { maxSteps := 2000000 }) (disch := first | omega | (simp only [kx, ne_eq, Int.reduceEq, not_false_eq_true, qb_in, qkW, qmW, qnW, true_and, and_true, or_self, true_or, or_true, and_self]; done) | (simp only [kx, ne_eq, Int.reduceEq, not_false_eq_true, qb_in, qkW, qmW, qnW, true_and, and_true, or_self, true_or, or_true, and_self]; omega)) only [zD_7, b7_0, b7_6, b7_15, b7_23, b7_38, b7_48, b7_51, b7_59, qcall_l, qcall_r, qretn_l, qJ_s, qJ_n, qV0, qEx, ↓qif0, ↓zchk_pos, ↓reduceIte, qput, qWW, qmW, qkW, qnW, b7_10, b7_34, kx, r1, td, zz 100 (by decide), zz 10 (by decide), zz 1 (by decide), tm 100 (by decide), tm 10 (by decide), tm 1 (by decide), b1, r2, b2, r3, b3, r4, Int.reduceLT, show Int.tdiv 1 10 = 0 from rfl, show Int.tdiv 10 10 = 1 from rfl, show Int.tdiv 100 10 = 10 from rfl, show z32 0 = 0 from rfl, show z32 1 = 1 from rfl, show z32 10 = 10 from rfl, show z32 (1 * 10) = 10 from rfl, show z32 (10 * 10) = 100 from rfl, show z32 (0 + 1) = 1 from rfl, show z32 (1 + 1) = 2 from rfl, (show ¬ v / 10 < 1 by omega), (show ¬ v / 10 < 10 by omega), (show v / 10 < 100 by omega)]
theorem s_lengthOfNumber (d : Nat) (S : zS) (v : Int) (h : 1 ≤ d) : zD d 8 [vi v] S = some (.inl (some (vi (qnu v + 1))), S) := by
  obtain ⟨e, rfl, -⟩ := qd h
  unfold qnu
  by_cases c1 : v < 10
  · rw [if_pos c1]
    simp (config := { maxSteps := 2000000 }) (disch := first | omega | (simp only [qb_in, qkW, qmW, qnW, true_and, and_true, or_self, true_or, or_true, and_self]; done) | (simp only [qb_in, qkW, qmW, qnW, true_and, and_true, or_self, true_or, or_true, and_self]; omega)) only [zD_8, b8_0, b8_6, b8_10, b8_16, b8_20, b8_21, qcall_l, qcall_r, qretn_l, qJ_s, qJ_n, qV0, qEx, ↓qif0, ↓zchk_pos, ↓reduceIte, qput, qWW, qmW, qkW, qnW, if_pos c1]
    rfl
  · rw [if_neg c1]
    by_cases c2 : v < 100
    · rw [if_pos c2]
      simp (config := { maxSteps := 2000000 }) (disch := first | omega | (simp only [qb_in, qkW, qmW, qnW, true_and, and_true, or_self, true_or, or_true, and_self]; done) | (simp only [qb_in, qkW, qmW, qnW, true_and, and_true, or_self, true_or, or_true, and_self]; omega)) only [zD_8, b8_0, b8_6, b8_10, b8_16, b8_20, b8_21, qcall_l, qcall_r, qretn_l, qJ_s, qJ_n, qV0, qEx, ↓qif0, ↓zchk_pos, ↓reduceIte, qput, qWW, qmW, qkW, qnW, if_neg c1, if_pos c2]
      rfl
    · rw [if_neg c2]
      simp (config := { maxSteps := 2000000 }) (disch := first | omega | (simp only [qb_in, qkW, qmW, qnW, true_and, and_true, or_self, true_or, or_true, and_self]; done) | (simp only [qb_in, qkW, qmW, qnW, true_and, and_true, or_self, true_or, or_true, and_self]; omega)) only [zD_8, b8_0, b8_6, b8_10, b8_16, b8_20, b8_21, qcall_l, qcall_r, qretn_l, qJ_s, qJ_n, qV0, qEx, ↓qif0, ↓zchk_pos, ↓reduceIte, qput, qWW, qmW, qkW, qnW, if_neg c1, if_neg c2]
      rfl
