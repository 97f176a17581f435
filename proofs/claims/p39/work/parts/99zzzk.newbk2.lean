/-! A book is laid on: books, copies, what lies felt. -/
theorem qsum_0 {f : Int → Int} (h : ∀ i, f i = 0) : ∀ n : Nat, qsum f n = 0 := by
  intro n
  have := qsum_z f 0 n fun i _ _ => h i
  rw [Nat.zero_add] at this
  rw [this]
  rfl
/-- a book that is new -/
theorem qBB_new {S : zS} {B N w t : Int} (h8 : zm S 8 B = N) (h51 : zm S 51 B = w) (h52 : zm S 52 B = t) (h54 : zm S 54 B = 0) (h50 : zm S 37 50 ≠ B) (w0 : 18 ≤ w) (t0 : 3 ≤ t) (e3 : zm S N 3 = w) (e4 : zm S N 4 = t) (e8 : zm S N 8 = N + 2) (e9 : zm S N 9 = 0) (e10 : zm S N 10 = 0) (e11 : zm S N 11 = 1) (e12 : zm S N 12 = 0) (e16 : zm S N 16 = 0) (e17 : zm S N 17 = 0) (z2 : ∀ j, zm S (N + 2) j = 0) : qBB S B := by
  refine ⟨0, fun _ => [], fun _ => [], fun _ => 0, fun _ => 0, fun _ => 0, 0, 0, ?_, fun q => absurd q h50⟩
  rw [h8, h51, h52]
  refine ⟨⟨by rw [h54]; rfl, by decide, fun q => absurd q (by decide)⟩, fun j hj => absurd hj (by omega), ⟨⟨⟨e3, e4, e8⟩, ⟨e9, e16, e17⟩, ?_, fun q => ?_⟩, ⟨e10, e11⟩, Or.inl ⟨rfl, rfl, rfl⟩, fun p k c p0 k0 k1 c0 c1 hl => ?_, fun p c p0 p1 c0 c1 => ?_, fun r c r0 r1 c0 c1 => ?_⟩⟩
  · rw [e12, qsum_0 z2]
  · rw [z2]
    decide
  · have h : p * (t - 1) + k - 1 < 0 := hl
    have h2 : 0 ≤ p * (t - 1) := Int.mul_nonneg p0 (by omega)
    omega
  · omega
  · exact z2 _
theorem qnb_B {S S2 : zS} {B N c g w t b : Int} (hH : qHC S) (h50 : zm S 37 50 < B) (hB : zm S 37 16 = B) (hN : (zn S : Int) = N) (w0 : 18 ≤ w) (t0 : 3 ≤ t) (a : qAg S S2 (qEk_book S)) (o : ∀ x : Int, x < N → x ≠ 3 → x ≠ 8 → x ≠ 37 → ¬ (49 ≤ x ∧ x ≤ 53) → x ≠ 102 → zm S2 x = zm S x) (o8 : ∀ i, zm S2 8 i = if i = B then N else zm S 8 i) (o37 : ∀ j, j ≠ 0 → j ≠ 16 → zm S2 37 j = zm S 37 j) (o16 : zm S2 37 16 = B + 1) (o49 : ∀ i, zm S2 49 i = if i = B then c else zm S 49 i) (o50 : ∀ i, zm S2 50 i = if i = B then g else zm S 50 i) (o51 : ∀ i, zm S2 51 i = if i = B then w else zm S 51 i) (o52 : ∀ i, zm S2 52 i = if i = B then t else zm S 52 i)
    (oN : ∀ j, zm S2 N j = if j = 8 then N + 2 else if j = 5 then b else if j = 4 then t else if j = 3 then w else if j = 2 then g else if j = 1 then zm S 6 c else if j = 0 then c else if j = 11 then 1 else if j = 6 then N + 1 else 0) (oN2 : ∀ j, zm S2 (N + 2) j = 0) (h4 : B < 4) : ∀ i, 0 ≤ i → i < zm S2 37 16 → qBB S2 i := fun i i1 i2 => by
  have hn := hH.1.1.1.2.2.2
  have hY := hH.1.1.2.2.2
  have hBB := hH.1.2
  rw [o16] at i2
  rw [hB] at hBB
  rw [hN] at hn
  have row : ∀ z, (39 ≤ z ∧ z ≤ 48) ∨ (54 ≤ z ∧ z ≤ 61) ∨ (71 ≤ z ∧ z ≤ 80) → zm S2 z = zm S z := fun z hz => o z (by omega) (by omega) (by omega) (by omega) (by omega) (by omega)
  by_cases q : i = B
  · rw [q]
    have z54 := (hY.2.2.2 B (by omega) h4).1
    refine qBB_new (N := N) (w := w) (t := t) (by rw [o8, if_pos rfl]) (by rw [o51, if_pos rfl]) (by rw [o52, if_pos rfl]) (by rw [row 54 (by omega), z54]) (by rw [o37 50 (by decide) (by decide)]; omega) w0 t0 ?_ ?_ ?_ ?_ ?_ ?_ ?_ ?_ ?_ oN2
    all_goals rw [oN]; simp only [Int.reduceEq, ↓reduceIte]
  · have hs := hY.2.1 i i1 (by omega)
    have hb := hBB i i1 (by omega)
    have hb0 := hb
    obtain ⟨J, fL, fE, fA, fU, fM, P, l, h0, h1⟩ := hb
    refine ⟨J, fL, fE, fA, fU, fM, P, l, ?_, ?_⟩
    · rw [o8, if_neg q, o51, if_neg q, o52, if_neg q]
      refine qB0_w h0 a.1 (by rw [row 54 (by omega)]) (fun j j1 j2 => ⟨fun x x1 x2 => ?_, fun x hx => by rw [row x (by omega)], fun i' _ _ => by rw [row 58 (by omega)]⟩) (fun N' T rc => qRc_f rc fun x x1 x2 => row x (by omega)) (fun W dg => qPw_e (o37 12 (by decide) (by decide)) (row 46 (by omega)) (row 47 (by omega)) (row 48 (by omega)) W dg) fun z i' hz => ?_
      · have hx : x = 49 ∨ x = 50 := by omega
        rcases hx with rfl | rfl
        · rw [o49, if_neg q]
        · rw [o50, if_neg q]
      · have hzz := qfb_z hs hb0 hz
        rw [hN] at hzz
        rw [o z hzz.2 (by omega) (by omega) (by omega) (by omega) (by omega)]
    · rw [o51, if_neg q, o52, if_neg q]
      exact qBl_e h1 (fun x x1 x2 => row x (by omega)) (o37 53 (by decide) (by decide)) (o37 63 (by decide) (by decide)) (o37 50 (by decide) (by decide)) (o37 51 (by decide) (by decide))
theorem qnb_Y {S S2 : zS} {B N w t b : Int} (hH : qHC S) (hB : zm S 37 16 = B) (hN : (zn S : Int) = N) (a : qAg S S2 (qEk_book S)) (o : ∀ x : Int, x < N → x ≠ 3 → x ≠ 8 → x ≠ 37 → ¬ (49 ≤ x ∧ x ≤ 53) → x ≠ 102 → zm S2 x = zm S x) (o3 : ∀ j, j ≠ 6 → zm S2 3 j = zm S 3 j) (o8 : ∀ i, zm S2 8 i = if i = B then N else zm S 8 i) (o37 : ∀ j, j ≠ 0 → j ≠ 16 → zm S2 37 j = zm S 37 j) (o16 : zm S2 37 16 = B + 1) (o51 : ∀ i, zm S2 51 i = if i = B then w else zm S 51 i) (o52 : ∀ i, zm S2 52 i = if i = B then t else zm S 52 i) (o53 : ∀ i, zm S2 53 i = if i = B then b else zm S 53 i) (eN13 : zm S2 N 13 = 0) : qYC S2 ∧ qFc S2 ∧ qYp S2 := by
  have hn := hH.1.1.1.2.2.2
  have hY := hH.1.1.2.2.2
  obtain ⟨-, -, -, p4, -, -⟩ := hH.1.1.2.2.1
  obtain ⟨y1, y2, y3, y4, y5⟩ := hH.2.1
  obtain ⟨f1, f2⟩ := hH.2.2
  rw [hB] at y1
  rw [hN] at hn
  have row : ∀ z, z = 13 ∨ z = 54 ∨ (81 ≤ z ∧ z ≤ 89) ∨ (103 ≤ z ∧ z < N) → zm S2 z = zm S z := fun z hz => o z (by omega) (by omega) (by omega) (by omega) (by omega) (by omega)
  have e65 : zm S2 37 65 = zm S 37 65 := o37 65 (by decide) (by decide)
  have n65 := p4.1.2
  -- a copy's book is an old one
  have old : ∀ k, 0 ≤ k → k < zm S 37 65 → 0 ≤ zm S 82 k ∧ zm S 82 k < B := fun k k1 k2 => by
    obtain ⟨b', x', y', w', t', P', ⟨q1, -⟩, ⟨q2, q3, -⟩, -⟩ := y2 k k1 k2
    rw [q1]
    rw [hB] at q3
    exact ⟨q2, q3⟩
  have bx : ∀ i, 0 ≤ i → i < B → (103 ≤ zm S 8 i ∧ zm S 8 i + 3 ≤ N) := fun i i1 i2 => by
    have := (qBs_x (hY.2.1 i i1 (by omega))).1
    rw [hN] at this
    exact this
  have x2 : ∀ i, 0 ≤ i → i < B → zm S2 (zm S 8 i) = zm S (zm S 8 i) ∧ zm S2 (zm S 8 i + 2) = zm S (zm S 8 i + 2) := fun i i1 i2 => by
    have := bx i i1 i2
    exact ⟨row _ (by omega), row _ (by omega)⟩
  have nb : ∀ {i : Int}, i < B → i ≠ B := fun h e => by omega
  refine ⟨⟨fun i i1 i2 => ?_, fun k k1 k2 => ?_, ?_, fun i i1 i2 => ?_, fun k k1 k2 => ?_⟩, ⟨?_, fun k b' x' w' t' P' h1 h2 h3 h4 h5 h6 h7 => ?_⟩, ⟨?_, fun k k1 k2 => ?_, fun i k i1 i2 i3 => ?_⟩⟩
  · rw [o16] at i2
    rw [o8, e65, qbn_e (row 82 (by omega))]
    by_cases q : i = B
    · rw [if_pos q, eN13, qbn_n0 _ fun k hk => ?_]
      have := old k (by omega) (by omega)
      omega
    · rw [if_neg q, (x2 i i1 (by omega)).1]
      exact y1 i i1 (by omega)
  · rw [e65] at k2
    obtain ⟨b', x', y', w', t', P', q⟩ := y2 k k1 k2
    have q0 := q
    obtain ⟨⟨a1, a2, a3, a4, a5, a6⟩, ⟨b1, b2, -⟩, ⟨-, -, -, y103, yn⟩, -⟩ := q
    rw [hB] at b2
    rw [hN] at yn
    have hx := x2 b' b1 b2
    rw [a2] at hx
    refine ⟨b', x', y', w', t', P', qCq_w q0 a.1 (by rw [row 82 (by omega)]) (by rw [o8, if_neg (nb b2)]) (by rw [row 13 (by omega)]) (by rw [o51, if_neg (nb b2)]) (by rw [o52, if_neg (nb b2)]) (by rw [row 54 (by omega)]) (by rw [o16, hB]; omega) (fun p _ _ => by rw [row 85 (by omega)]) (fun p _ _ => by rw [row 83 (by omega)]) (by rw [hx.1]) hx.2 (fun j _ => by rw [row y' (by omega)]) (row _ (by omega)) (row _ (by omega)) (by rw [row 84 (by omega)])⟩
  · rw [o37 73 (by decide) (by decide), e65, y3]
    refine (qst_e _ fun k hk => ?_).symm
    have := old k (by omega) (by omega)
    rw [row 82 (by omega)]
    unfold qsh
    rw [o53, if_neg (nb this.2), o8, if_neg (nb this.2), (x2 _ this.1 this.2).1]
  · rw [e65] at i1
    rw [row 85 (by omega)]
    exact y4 i i1 i2
  · rw [e65] at k1
    rw [row 88 (by omega)]
    exact y5 k k1 k2
  · rw [o37 75 (by decide) (by decide), e65]
    exact f1
  · rw [o37 75 (by decide) (by decide)] at h1
    have ok := old k h2 (by rw [← h1]; exact f1.2)
    rw [row 82 (by omega)] at h3
    rw [h3] at ok
    rw [o8, if_neg (nb ok.2)] at h4
    rw [o51, if_neg (nb ok.2)] at h5
    rw [o52, if_neg (nb ok.2)] at h6
    have hx := x2 b' ok.1 ok.2
    rw [h4] at hx
    rw [hx.1] at h7
    rw [row 89 (by omega), row 83 (by omega), hx.2]
    exact f2 k b' x' w' t' P' h1 h2 h3 h4 h5 h6 h7
  · exact ⟨by rw [o3 9 (by decide), e65]; exact p4.1.1, by rw [e65]; exact n65.1, by rw [e65]; exact n65.2⟩
  · rw [e65] at k2
    have ok := old k k1 k2
    obtain ⟨⟨u1, u2, u3⟩, u4⟩ := p4.2.1 k k1 k2
    rw [hN] at u3
    obtain ⟨y, hy⟩ : ∃ y, zm S 13 k = y := ⟨_, rfl⟩
    rw [hy] at u1 u2 u3 u4
    rw [row 13 (by omega), hy, row 82 (by omega), row 84 (by omega), row 86 (by omega), row 87 (by omega), row 88 (by omega), o8, if_neg (nb ok.2), row y (by omega), o16, o37 76 (by decide) (by decide)]
    have hz := a.1.2 y (by omega)
    have hn2 := a.1.1
    refine ⟨⟨by rw [hz]; exact u1, u2, by omega⟩, u4.1, ⟨ok.1, by omega⟩, u4.2.2⟩
  · rw [e65] at i3
    rw [row 13 (by omega)]
    exact p4.2.2 i k i1 i2 i3
