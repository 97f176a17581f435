/-! A book's pages, as the class holds them; a line begins. -/
def qhd (w pr p c : Int) : Int := if c ≤ qnu pr then qnc pr c else if w - 1 - qnu (p + 1) ≤ c then qnc (p + 1) (c - (w - 1 - qnu (p + 1))) else 0
def qCB (m : Int → Int → Int) (x w t : Int) (s : qZs) (P l : Int) : Prop :=
  qPs m x w t P l s.2.2.1 ∧ (m x 10 = s.1 + P ∧ m x 11 = s.2.1) ∧ ((s.1 = 0 ∧ P = 0 ∧ l = 0) ∨ (1 ≤ P ∧ 1 ≤ l ∧ l ≤ t - 1 ∧ s.1 = (P - 1) * (t - 1) + l)) ∧
  (∀ p k c, 0 ≤ p → 1 ≤ k → k ≤ t - 1 → 0 ≤ c → c < w → p * (t - 1) + k - 1 < s.1 → m (x + 2) ((p * t + k) * w + c) = s.2.2.2.1 (p * (t - 1) + k - 1) c) ∧
  (∀ p c, 0 ≤ p → p < P → 0 ≤ c → c < w → m (x + 2) (p * t * w + c) = qhd w (s.2.2.2.2 (p * (t - 1))) p c) ∧
  ∀ r c, 0 ≤ r → (P - 1) * t + l < r → 0 ≤ c → c < w → m (x + 2) (r * w + c) = 0
theorem qCB_e {m : Int → Int → Int} {x w t : Int} {s s' : qZs} {P l : Int} (h : qCB m x w t s P l) (h1 : s'.1 = s.1) (h2 : s'.2.1 = s.2.1) (h3 : s'.2.2.1 = s.2.2.1) (h4 : ∀ l c, 0 ≤ c → c < w → s'.2.2.2.1 l c = s.2.2.2.1 l c) (h5 : s'.2.2.2.2 = s.2.2.2.2) : qCB m x w t s' P l := by
  obtain ⟨a1, a2, a3, a4, a5, a6⟩ := h
  refine ⟨by rw [h3]; exact a1, by rw [h1, h2]; exact a2, by rw [h1]; exact a3, fun p k c p1 k1 k2 c1 c2 hn => ?_, fun p c p1 p2 c1 c2 => by rw [h5]; exact a5 p c p1 p2 c1 c2, a6⟩
  rw [h1] at hn
  rw [h4 _ _ c1 c2]
  exact a4 p k c p1 k1 k2 c1 c2 hn
theorem qCB_u {m m' : Int → Int → Int} {x w t : Int} {s : qZs} {P l : Int} {K : List Int} (h : qCB m x w t s P l) (hn : 0 < s.1) (hp : 0 ≤ s.2.2.1 ∧ s.2.2.1 + K.length ≤ w) (g : qPL m m' x (((P - 1) * t + l) * w + s.2.2.1) (s.2.2.1 + K.length) K) (g2 : qPs m' x w t P l (s.2.2.1 + K.length)) : qCB m' x w t (qZu s K) P l := by
  obtain ⟨-, ⟨a10, a11⟩, a3, a4, a5, a6⟩ := h
  obtain ⟨u1, u2, u3, u4⟩ := g
  have a3' : 1 ≤ P ∧ 1 ≤ l ∧ l ≤ t - 1 ∧ s.1 = (P - 1) * (t - 1) + l := a3.resolve_left fun q => by omega
  obtain ⟨b1, b2, b3, b4⟩ := a3'
  -- a place of the list is of this row
  have at_ : ∀ r c, 0 ≤ c → c < w → (((P - 1) * t + l) * w + s.2.2.1 ≤ r * w + c ∧ r * w + c < ((P - 1) * t + l) * w + s.2.2.1 + K.length) → r = (P - 1) * t + l ∧ s.2.2.1 ≤ c ∧ c < s.2.2.1 + K.length := fun r c c1 c2 q => by
    obtain ⟨e1, e2⟩ := qix (w := w) (r := r) (c := c) (r' := (P - 1) * t + l) (c' := r * w + c - ((P - 1) * t + l) * w) ⟨c1, c2⟩ (by omega) (by omega)
    exact ⟨e1, by omega, by omega⟩
  refine ⟨g2, ⟨by rw [u3 10 (by decide) (by decide)]; exact a10, by rw [u3 11 (by decide) (by decide)]; exact a11⟩, Or.inr ⟨b1, b2, b3, b4⟩, fun p k c p1 k1 k2 c1 c2 hn2 => ?_, fun p c p1 p2 c1 c2 => ?_, fun r c r1 r2 c1 c2 => ?_⟩
  · rw [u1]
    show _ = if p * (t - 1) + k - 1 = s.1 - 1 ∧ s.2.2.1 ≤ c ∧ c < s.2.2.1 + K.length then qnth K (c - s.2.2.1) else s.2.2.2.1 (p * (t - 1) + k - 1) c
    by_cases q : ((P - 1) * t + l) * w + s.2.2.1 ≤ (p * t + k) * w + c ∧ (p * t + k) * w + c < ((P - 1) * t + l) * w + s.2.2.1 + K.length
    · obtain ⟨e1, e2, e3⟩ := at_ _ _ c1 c2 q
      obtain ⟨f1, f2⟩ := qix (w := t) (r := p) (c := k) (r' := P - 1) (c' := l) (by omega) (by omega) e1
      rw [if_pos q, f1, f2, if_pos ⟨by omega, e2, e3⟩, show ((P - 1) * t + l) * w + c - (((P - 1) * t + l) * w + s.2.2.1) = c - s.2.2.1 by omega]
    · rw [if_neg q, if_neg fun z => ?_]
      · exact a4 p k c p1 k1 k2 c1 c2 hn2
      · obtain ⟨f1, f2⟩ := qix (w := t - 1) (r := p) (c := k - 1) (r' := P - 1) (c' := l - 1) (by omega) (by omega) (by omega)
        have f2 : k = l := by omega
        rw [f1, f2] at q
        omega
  · rw [u1, if_neg fun q => ?_]
    · exact a5 p c p1 p2 c1 c2
    · obtain ⟨e1, -⟩ := at_ (p * t) c c1 c2 q
      obtain ⟨-, f2⟩ := qix (w := t) (r := p) (c := 0) (r' := P - 1) (c' := l) (by omega) (by omega) (by omega)
      omega
  · rw [u1, if_neg fun q => ?_]
    · exact a6 r c r1 r2 c1 c2
    · obtain ⟨e1, -⟩ := at_ r c c1 c2 q
      omega
theorem qZu_u (s : qZs) (K K2 : List Int) : qZu (qZu s K) K2 = qZu s (K ++ K2) := by
  have e : (fun l c => if l = s.1 - 1 ∧ s.2.2.1 + K.length ≤ c ∧ c < s.2.2.1 + K.length + K2.length then qnth K2 (c - (s.2.2.1 + K.length)) else if l = s.1 - 1 ∧ s.2.2.1 ≤ c ∧ c < s.2.2.1 + K.length then qnth K (c - s.2.2.1) else s.2.2.2.1 l c) = fun l c => if l = s.1 - 1 ∧ s.2.2.1 ≤ c ∧ c < s.2.2.1 + (K ++ K2).length then qnth (K ++ K2) (c - s.2.2.1) else s.2.2.2.1 l c := by
    funext l c
    rw [List.length_append]
    by_cases c1 : l = s.1 - 1 ∧ s.2.2.1 + K.length ≤ c ∧ c < s.2.2.1 + K.length + K2.length
    · rw [if_pos c1, if_pos (by omega), qnth_r _ _ _ (by omega), show c - s.2.2.1 - (K.length : Int) = c - (s.2.2.1 + K.length) by omega]
    · rw [if_neg c1]
      by_cases c2 : l = s.1 - 1 ∧ s.2.2.1 ≤ c ∧ c < s.2.2.1 + K.length
      · rw [if_pos c2, if_pos (by omega), qnth_l _ _ _ (by omega)]
      · rw [if_neg c2, if_neg (by omega)]
  refine Prod.ext rfl (Prod.ext rfl (Prod.ext ?_ (Prod.ext e rfl)))
  show s.2.2.1 + (K.length : Int) + (K2.length : Int) = s.2.2.1 + ((K ++ K2).length : Int)
  rw [List.length_append]
  omega
theorem qZu_0 (s : qZs) : qZu s [] = s := by
  have e : (fun l c => if l = s.1 - 1 ∧ s.2.2.1 ≤ c ∧ c < s.2.2.1 + (([] : List Int).length : Int) then qnth [] (c - s.2.2.1) else s.2.2.2.1 l c) = s.2.2.2.1 := by
    funext l c
    rw [if_neg (by show ¬ (_ ∧ _ ∧ _ < s.2.2.1 + ((0 : Nat) : Int)); omega)]
  refine Prod.ext rfl (Prod.ext rfl (Prod.ext ?_ (Prod.ext e rfl)))
  show s.2.2.1 + ((0 : Nat) : Int) = s.2.2.1
  omega
/-- outside of a book and its cells nothing changes -/
def qfx (x : Int) (m m' : Int → Int → Int) : Prop := (∀ y, y ≠ x → y ≠ x + 2 → m' y = m y) ∧ ∀ j, j ≠ 9 → j ≠ 10 → j ≠ 11 → j ≠ 12 → j ≠ 16 → j ≠ 17 → m' x j = m x j
theorem qfx_t {x : Int} {m m1 m2 : Int → Int → Int} (h : qfx x m m1) (g : qfx x m1 m2) : qfx x m m2 := ⟨fun y y1 y2 => (g.1 y y1 y2).trans (h.1 y y1 y2), fun j j1 j2 j3 j4 j5 j6 => (g.2 j j1 j2 j3 j4 j5 j6).trans (h.2 j j1 j2 j3 j4 j5 j6)⟩
theorem qfx_r (x : Int) (m : Int → Int → Int) : qfx x m m := ⟨fun _ _ _ => rfl, fun _ _ _ _ _ _ _ => rfl⟩
theorem qfx_l {x : Int} {m m' : Int → Int → Int} {o c : Int} {K : List Int} (h : qPL m m' x o c K) : qfx x m m' := ⟨h.2.2.2, fun j _ _ _ j4 _ j6 => h.2.2.1 j j4 j6⟩
theorem qfx_u {x : Int} (m : Int → Int → Int) (j v : Int) (hj : j = 9 ∨ j = 10 ∨ j = 11 ∨ j = 16 ∨ j = 17) : qfx x m (qu m x j v) := ⟨fun y y1 _ => qu_o _ _ _ _ _ y1, fun i i1 i2 i3 i4 i5 i6 => qu_i _ _ _ _ _ (by omega)⟩
theorem qfx_L {x : Int} {m m' : Int → Int → Int} (h : qfx x m m') (hx : 103 ≤ x) (hL : qLt m) : qLt m' := fun q hq => by
  rw [h.1 2 (by omega) (by omega)]
  exact hL q hq
theorem s_putCB (d : Nat) (S : zS) (m : Int → Int → Int) (x w t P l v A B : Int) (s : qZs) (h : 2 ≤ d) (hk : qBk S x w t) (hs : qCB m x w t s P l) (hz : qZk w s A B) (hA : A ≤ 240) (hn : 0 < s.1) (hp : s.2.2.1 < w) (hv : 0 ≤ v ∧ v < 64) :
    ∃ m', zD d 6 [vr x, vi v] (qW S m) = some (.inl none, qW S m') ∧ qCB m' x w t (qZu s [v]) P l ∧ qfx x m m' := by
  have hs0 := hs
  obtain ⟨a1, a2, a3, a4, a5, a6⟩ := hs
  obtain ⟨b1, b2, b3, b4⟩ : 1 ≤ P ∧ 1 ≤ l ∧ l ≤ t - 1 ∧ s.1 = (P - 1) * (t - 1) + l := a3.resolve_left fun q => by omega
  obtain ⟨⟨z1, z2⟩, -, z3, -, z5, -⟩ := hz
  have hk0 := hk
  obtain ⟨-, hw, ht, -⟩ := hk
  have hP : P ≤ qmp t := by
    obtain ⟨-, -, -, -, q5⟩ := qmp_r ht
    by_cases c : P ≤ qmp t
    · exact c
    · have := qixm (w := t - 1) (a := qmp t) (b := P) (by omega) (by omega)
      have e : (P - 1) * (t - 1) = P * (t - 1) - (t - 1) := by rw [Int.sub_mul, Int.one_mul]
      omega
  have e0 : (P - 1) * (t - 1) + l - 1 = s.1 - 1 := by omega
  have c0 := a4 (P - 1) l s.2.2.1 (by omega) b2 b3 z3.1 hp (by omega)
  rw [e0, z5 _ (Int.le_refl _)] at c0
  obtain ⟨m', r, p1, p2⟩ := s_put d S m x w t P l s.2.2.1 v h hk0 a1 ⟨b1, hP⟩ (by omega) ⟨z3.1, hp⟩ hv c0
  exact ⟨m', r, qCB_u hs0 hn ⟨z3.1, by show s.2.2.1 + ((1 : Nat) : Int) ≤ w; omega⟩ p1 p2, qfx_l p1⟩
theorem qPs_u {m : Int → Int → Int} {x w t P l c : Int} (h : qPs m x w t P l c) (j v : Int) (hj : j ≠ 3 ∧ j ≠ 4 ∧ j ≠ 8 ∧ j ≠ 12) : qPs (qu m x j v) x w t (if j = 9 then v else P) (if j = 16 then v else l) (if j = 17 then v else c) := by
  obtain ⟨⟨x3, x4, x8⟩, ⟨x9, x16, x17⟩, d1, d2⟩ := h
  have e : ∀ i, qu m x j v x i = if i = j then v else m x i := fun i => by rw [qu_row]
  have e2 : qu m x j v (x + 2) = m (x + 2) := qu_o _ _ _ _ _ (by omega)
  refine ⟨⟨?_, ?_, ?_⟩, ⟨?_, ?_, ?_⟩, ?_, by rw [e2]; exact d2⟩
  · rw [e, if_neg (by omega), x3]
  · rw [e, if_neg (by omega), x4]
  · rw [e, if_neg (by omega), x8]
  · rw [e, x9]
    by_cases c : j = 9
    · rw [if_pos c, if_pos c.symm]
    · rw [if_neg c, if_neg fun q => c q.symm]
  · rw [e, x16]
    by_cases c : j = 16
    · rw [if_pos c, if_pos c.symm]
    · rw [if_neg c, if_neg fun q => c q.symm]
  · rw [e, x17]
    by_cases c : j = 17
    · rw [if_pos c, if_pos c.symm]
    · rw [if_neg c, if_neg fun q => c q.symm]
  · rw [e, if_neg (by omega), e2, d1]
theorem s_beginLine (d : Nat) (S : zS) (m : Int → Int → Int) (x w t P l A B : Int) (s : qZs) (h : 4 ≤ d) (hK : qK S) (hL : qLt m) (hk : qBk S x w t) (hs : qCB m x w t s P l) (hz : qZk w s A B) (hA : A < 240) (hB : B < 900) :
    ∃ m' P' l', zD d 12 [vr x] (qW S m) = some (.inl none, qW S m') ∧ qCB m' x w t (qZb s) P' l' ∧ qfx x m m' := by
  obtain ⟨e, rfl, he⟩ := qd h
  obtain ⟨a1, ⟨a10, a11⟩, a3, a4, a5, a6⟩ := hs
  have a1' := a1
  obtain ⟨⟨x3, x4, x8⟩, ⟨x9, x16, x17⟩, d1, d2⟩ := a1
  obtain ⟨⟨z1, z2⟩, zp, z3, -⟩ := hz
  have hk0 := hk
  obtain ⟨⟨kx, kc⟩, hw, ht, hx⟩ := hk
  obtain ⟨q1, q2, -, -, q5⟩ := qmp_r ht
  have e1 : (P - 1) * (t - 1) = P * (t - 1) - (t - 1) := by rw [Int.sub_mul, Int.one_mul]
  have e2 : (P - 1) * t = P * t - t := by rw [Int.sub_mul, Int.one_mul]
  have hP0 : 0 ≤ P ∧ P < 10000 := by
    rcases a3 with q | ⟨b1, b2, b3, b4⟩
    · omega
    · refine ⟨by omega, ?_⟩
      have : (P - 1) * 1 ≤ (P - 1) * (t - 1) := Int.mul_le_mul_of_nonneg_left (by omega) (by omega)
      omega
  -- the line's end
  have fin : ∀ (M : Int → Int → Int) (P' l' n10 : Int), qPs M x w t P' l' (M x 17) → M x 10 = n10 → 0 ≤ l' ∧ l' < 100 → -100 ≤ n10 ∧ n10 ≤ 100000 → zF_12 e 82 [vr x] [] (qW S M) = some (.inl none, qW S (qu (qu (qu M x 16 (l' + 1)) x 10 (n10 + 1)) x 17 0)) := by
    intro M P' l' n10 g1 g10 g2 g3
    obtain ⟨-, ⟨g9, g16, g17⟩, -⟩ := g1
    have v1 : z32 (l' + 1) = l' + 1 := q32 (by omega)
    have v2 : z32 (n10 + 1) = n10 + 1 := q32 (by omega)
    have v3 : qu M x 16 (l' + 1) x 10 = n10 := by rw [qu_i _ _ _ _ _ (by decide), g10]
    rw [b12_82]
    simp (config := { maxSteps := 2000000 }) (disch := first | omega | (simp only [kx, qb_in, qkW, qmW, qnW, true_and, and_true, or_self, true_or, or_true, and_self]; done) | (simp only [kx, qb_in, qkW, qmW, qnW, true_and, and_true, or_self, true_or, or_true, and_self]; omega)) only [b12_0, b12_7, b12_20, b12_36, b12_52, b12_58, b12_70, b12_98, qcall_l, qcall_r, qretn_l, qJ_s, qJ_n, qV0, qEx, ↓qif0, ↓zchk_pos, ↓reduceIte, qput, qWW, qmW, qkW, qnW, kx, g16, v1, v3, v2]
  by_cases cA : P ≠ 0 ∧ l + 1 < t
  · obtain ⟨cP, cl⟩ := cA
    obtain ⟨b1, b2, b3, b4⟩ : 1 ≤ P ∧ 1 ≤ l ∧ l ≤ t - 1 ∧ s.1 = (P - 1) * (t - 1) + l := a3.resolve_left fun q => cP q.2.1
    have r := fin m P l (s.1 + P) (by rw [x17]; exact a1') a10 (by omega) (by omega)
    obtain ⟨M, hM⟩ : ∃ M, qu (qu (qu m x 16 (l + 1)) x 10 (s.1 + P + 1)) x 17 0 = M := ⟨_, rfl⟩
    rw [hM] at r
    have Mp : qPs M x w t P (l + 1) 0 := by
      have := qPs_u (qPs_u (qPs_u a1' 16 (l + 1) (by decide)) 10 (s.1 + P + 1) (by decide)) 17 0 (by decide)
      rw [hM] at this
      exact this
    have Mc : M (x + 2) = m (x + 2) := by rw [← hM, qu_o _ _ _ _ _ (by omega), qu_o _ _ _ _ _ (by omega), qu_o _ _ _ _ _ (by omega)]
    refine ⟨M, P, l + 1, ?_, ⟨Mp, ⟨?_, ?_⟩, Or.inr ⟨b1, by omega, by omega, by show s.1 + 1 = _; omega⟩, fun p k c p1 k1 k2 c1 c2 hn => ?_, fun p c p1 p2 c1 c2 => ?_, fun r c r1 r2 c1 c2 => ?_⟩, ?_⟩
    · have v1 : z32 (l + 1) = l + 1 := q32 (by omega)
      simp (config := { maxSteps := 2000000 }) (disch := first | omega | (simp only [kx, qb_in, qkW, qmW, qnW, true_and, and_true, or_self, true_or, or_true, and_self]; done) | (simp only [kx, qb_in, qkW, qmW, qnW, true_and, and_true, or_self, true_or, or_true, and_self]; omega)) only [zD_12, b12_0, b12_7, b12_20, b12_36, b12_52, b12_58, b12_70, b12_98, qcall_l, qcall_r, qretn_l, qJ_s, qJ_n, qV0, qEx, ↓qif0, ↓zchk_pos, ↓reduceIte, qput, qWW, qmW, qkW, qnW, kx, x9, if_neg cP, x16, x4, v1, if_pos cl, r]
    · show M x 10 = s.1 + 1 + P
      rw [← hM, qu_i _ _ _ _ _ (by decide), qu_s]
      omega
    · rw [← hM, qu_i _ _ _ _ _ (by decide), qu_i _ _ _ _ _ (by decide), qu_i _ _ _ _ _ (by decide)]
      exact a11
    · have hn : p * (t - 1) + k - 1 < s.1 + 1 := hn
      rw [Mc]
      show _ = if p * (t - 1) + k - 1 = s.1 then 0 else s.2.2.2.1 (p * (t - 1) + k - 1) c
      by_cases c3 : p * (t - 1) + k - 1 = s.1
      · rw [if_pos c3]
        obtain ⟨f1, f2⟩ := qix (w := t - 1) (r := p) (c := k - 1) (r' := P - 1) (c' := l) (by omega) (by omega) (by omega)
        have f2 : k = l + 1 := by omega
        rw [f1, f2]
        exact a6 _ c (by have := Int.mul_nonneg (show 0 ≤ P - 1 by omega) (show 0 ≤ t by omega); omega) (by omega) c1 c2
      · rw [if_neg c3]
        exact a4 p k c p1 k1 k2 c1 c2 (by omega)
    · rw [Mc]
      show _ = qhd w (if p * (t - 1) = s.1 then s.2.1 else s.2.2.2.2 (p * (t - 1))) p c
      have : p * (t - 1) ≤ (P - 1) * (t - 1) := Int.mul_le_mul_of_nonneg_right (by omega) (by omega)
      rw [if_neg (by omega)]
      exact a5 p c p1 p2 c1 c2
    · rw [Mc]
      exact a6 r c r1 (by omega) c1 c2
    · rw [← hM]
      exact qfx_t (qfx_t (qfx_u m 16 _ (by decide)) (qfx_u _ 10 _ (by decide))) (qfx_u _ 17 _ (by decide))
  · -- a page begins
    have hn : s.1 = P * (t - 1) := by
      rcases a3 with ⟨q1, q2, q3⟩ | ⟨b1, b2, b3, b4⟩
      · rw [q1, q2, Int.zero_mul]
      · have : l + 1 = t := by omega
        omega
    have hl0 : (P - 1) * t + l < P * t := by
      rcases a3 with ⟨q1, q2, q3⟩ | ⟨b1, b2, b3, b4⟩
      · omega
      · omega
    have hP1 : P < qmp t := by
      by_cases c : P < qmp t
      · exact c
      · have := Int.mul_le_mul_of_nonneg_right (show qmp t ≤ P by omega) (show 0 ≤ t - 1 by omega)
        omega
    have hPt : 0 ≤ P * t := Int.mul_nonneg hP0.1 (by omega)
    obtain ⟨M0, hM0⟩ : ∃ M, qu (qu (qu (qu m x 9 (P + 1)) x 16 0) x 10 (s.1 + P + 1)) x 17 0 = M := ⟨_, rfl⟩
    have M0p : qPs M0 x w t (P + 1) 0 0 := by
      have := qPs_u (qPs_u (qPs_u (qPs_u a1' 9 (P + 1) (by decide)) 16 0 (by decide)) 10 (s.1 + P + 1) (by decide)) 17 0 (by decide)
      rw [hM0] at this
      exact this
    have M0c : M0 (x + 2) = m (x + 2) := by rw [← hM0, qu_o _ _ _ _ _ (by omega), qu_o _ _ _ _ _ (by omega), qu_o _ _ _ _ _ (by omega), qu_o _ _ _ _ _ (by omega)]
    have f0 : qfx x m M0 := by
      rw [← hM0]
      exact qfx_t (qfx_t (qfx_t (qfx_u m 9 _ (by decide)) (qfx_u _ 16 _ (by decide))) (qfx_u _ 10 _ (by decide))) (qfx_u _ 17 _ (by decide))
    have M011 : M0 x 11 = s.2.1 := by rw [← hM0, qu_i _ _ _ _ _ (by decide), qu_i _ _ _ _ _ (by decide), qu_i _ _ _ _ _ (by decide), qu_i _ _ _ _ _ (by decide)]; exact a11
    have nr1 := qnu_r s.2.1
    have nr2 := qnu_r (P + 1)
    have row : ((P + 1 - 1) * t + 0) * w = P * t * w := by rw [show P + 1 - 1 = P by omega, Int.add_zero]
    have zr : ∀ i, 0 ≤ i → i < w → m (x + 2) (P * t * w + i) = 0 := fun i i1 i2 => a6 (P * t) i hPt hl0 i1 i2
    obtain ⟨m1, r1, p1, s1⟩ := s_putNumber e S M0 x w t (P + 1) 0 0 s.2.1 (by omega) hK (qfx_L f0 hx hL) hk0 M0p (by omega) (by omega) (by omega) (by omega) (fun i i1 i2 => by rw [row, M0c]; exact zr i i1 i2)
    rw [row] at p1
    have ln := s_lengthOfNumber e (qW S m1) (P + 1) (by omega)
    have v1 : z32 (w - (qnu (P + 1) + 1)) = w - (qnu (P + 1) + 1) := q32 (by omega)
    obtain ⟨M1, hM1⟩ : ∃ M, qu m1 x 17 (w - (qnu (P + 1) + 1)) = M := ⟨_, rfl⟩
    have M1p : qPs M1 x w t (P + 1) 0 (w - (qnu (P + 1) + 1)) := by
      have := qPs_u s1 17 (w - (qnu (P + 1) + 1)) (by decide)
      rw [hM1] at this
      exact this
    have M1c : M1 (x + 2) = m1 (x + 2) := by rw [← hM1, qu_o _ _ _ _ _ (by omega)]
    have f1 : qfx x m M1 := qfx_t (qfx_t f0 (qfx_l p1)) (by rw [← hM1]; exact qfx_u _ 17 _ (by decide))
    have l1 := qnl_l s.2.1
    have l2 := qnl_l (P + 1)
    have c1q : ∀ q, m1 (x + 2) q = if P * t * w ≤ q ∧ q < P * t * w + (qnu s.2.1 + 1) then qnc s.2.1 (q - P * t * w) else m (x + 2) q := fun q => by
      rw [p1.1, M0c, l1, Int.add_zero]
      by_cases c : P * t * w ≤ q ∧ q < P * t * w + (qnu s.2.1 + 1)
      · rw [if_pos c, if_pos c, qnl_n _ _ (by omega)]
      · rw [if_neg c, if_neg c]
    obtain ⟨m2, r2, p2, s2⟩ := s_putNumber e S M1 x w t (P + 1) 0 (w - (qnu (P + 1) + 1)) (P + 1) (by omega) hK (qfx_L f1 hx hL) hk0 M1p (by omega) (by omega) (by omega) (by omega) (fun i i1 i2 => by
      rw [row, M1c, c1q, if_neg (by omega)]
      exact zr i (by omega) i2)
    rw [row] at p2
    have c2q : ∀ q, m2 (x + 2) q = if P * t * w ≤ q ∧ q < P * t * w + w then qhd w s.2.1 P (q - P * t * w) else m (x + 2) q := fun q => by
      rw [p2.1, M1c, l2, c1q]
      unfold qhd
      by_cases c : P * t * w + (w - (qnu (P + 1) + 1)) ≤ q ∧ q < P * t * w + (w - (qnu (P + 1) + 1)) + (qnu (P + 1) + 1)
      · rw [if_pos c, if_pos (by omega), if_neg (by omega), if_pos (by omega), qnl_n _ _ (by omega), show q - (P * t * w + (w - (qnu (P + 1) + 1))) = q - P * t * w - (w - 1 - qnu (P + 1)) by omega]
      · rw [if_neg c]
        by_cases c2 : P * t * w ≤ q ∧ q < P * t * w + (qnu s.2.1 + 1)
        · rw [if_pos c2, if_pos (by omega), if_pos (by omega)]
        · rw [if_neg c2]
          by_cases c3 : P * t * w ≤ q ∧ q < P * t * w + w
          · rw [if_pos c3, if_neg (by omega), if_neg (by omega)]
            have := zr (q - P * t * w) (by omega) (by omega)
            rw [show P * t * w + (q - P * t * w) = q by omega] at this
            exact this
          · rw [if_neg c3]
    have f2 : qfx x m m2 := qfx_t f1 (qfx_l p2)
    have m210 : m2 x 10 = s.1 + P + 1 := by rw [p2.2.2.1 10 (by decide) (by decide), ← hM1, qu_i _ _ _ _ _ (by decide), p1.2.2.1 10 (by decide) (by decide), ← hM0, qu_i _ _ _ _ _ (by decide), qu_s]
    have m211 : m2 x 11 = s.2.1 := by rw [p2.2.2.1 11 (by decide) (by decide), ← hM1, qu_i _ _ _ _ _ (by decide), p1.2.2.1 11 (by decide) (by decide), M011]
    have m19 : M1 x 9 = P + 1 := M1p.2.1.1
    have m129 : m1 x 9 = P + 1 := s1.2.1.1
    have m13 : m1 x 3 = w := s1.1.1
    have r3 := fin m2 (P + 1) 0 (s.1 + P + 1) (by rw [s2.2.1.2.2]; exact s2) m210 (by decide) (by omega)
    obtain ⟨M, hM⟩ : ∃ M, qu (qu (qu m2 x 16 (0 + 1)) x 10 (s.1 + P + 1 + 1)) x 17 0 = M := ⟨_, rfl⟩
    rw [hM] at r3
    have Mp : qPs M x w t (P + 1) 1 0 := by
      have := qPs_u (qPs_u (qPs_u s2 16 (0 + 1) (by decide)) 10 (s.1 + P + 1 + 1) (by decide)) 17 0 (by decide)
      rw [hM] at this
      exact this
    have Mc : M (x + 2) = m2 (x + 2) := by rw [← hM, qu_o _ _ _ _ _ (by omega), qu_o _ _ _ _ _ (by omega), qu_o _ _ _ _ _ (by omega)]
    -- a row that isn't this page's head
    have other : ∀ r c, r ≠ P * t → 0 ≤ c → c < w → M (x + 2) (r * w + c) = m (x + 2) (r * w + c) := fun r c hr c1 c2 => by
      rw [Mc, c2q, if_neg fun q => ?_]
      obtain ⟨e1, -⟩ := qix (w := w) (r := r) (c := c) (r' := P * t) (c' := r * w + c - P * t * w) ⟨c1, c2⟩ (by omega) (by omega)
      exact hr e1
    refine ⟨M, P + 1, 1, ?_, ⟨Mp, ⟨?_, ?_⟩, Or.inr ⟨by omega, by omega, by omega, by show s.1 + 1 = _; rw [show P + 1 - 1 = P by omega]; omega⟩, fun p k c p1 k1 k2 c1 c2 hn2 => ?_, fun p c p1 p2 c1 c2 => ?_, fun r c r1 r2 c1 c2 => ?_⟩, ?_⟩
    · have w1 : z32 (P + 1) = P + 1 := q32 (by omega)
      have w2 : z32 (s.1 + P + 1) = s.1 + P + 1 := q32 (by omega)
      have w3 : z32 (l + 1) = l + 1 := q32 (by rcases a3 with q | q <;> omega)
      have t0 : ∀ M' : Int → Int → Int, qu M' x 16 0 x 10 = M' x 10 := fun M' => qu_i _ _ _ _ _ (by decide)
      have t1 : ∀ v, qu m x 9 v x 10 = s.1 + P := fun v => by rw [qu_i _ _ _ _ _ (by decide)]; exact a10
      have r1 : zD e 7 [vr x, vi s.2.1] (qW S M0) = some (.inl none, qW S m1) := r1
      have go : zF_12 e 20 [vr x] [] (qW S m) = some (.inl none, qW S M) := by
        rw [b12_20]
        simp (config := { maxSteps := 2000000 }) (disch := first | omega | (simp only [kx, qb_in, qkW, qmW, qnW, true_and, and_true, or_self, true_or, or_true, and_self]; done) | (simp only [kx, qb_in, qkW, qmW, qnW, true_and, and_true, or_self, true_or, or_true, and_self]; omega)) only [b12_0, b12_7, b12_36, b12_52, b12_58, b12_70, b12_98, qcall_l, qcall_r, qretn_l, qJ_s, qJ_n, qV0, qEx, ↓qif0, ↓zchk_pos, ↓reduceIte, qput, qWW, qmW, qkW, qnW, kx, x9, w1, t0, t1, w2, hM0, M011, r1, m129, m13, ln, v1, hM1, m19, r2, r3]
      by_cases cP : P = 0
      · simp (config := { maxSteps := 2000000 }) (disch := first | omega | (simp only [kx, qb_in, qkW, qmW, qnW, true_and, and_true, or_self, true_or, or_true, and_self]; done) | (simp only [kx, qb_in, qkW, qmW, qnW, true_and, and_true, or_self, true_or, or_true, and_self]; omega)) only [zD_12, b12_0, b12_7, b12_36, b12_52, b12_58, b12_70, b12_98, qcall_l, qcall_r, qretn_l, qJ_s, qJ_n, qV0, qEx, ↓qif0, ↓zchk_pos, ↓reduceIte, qput, qWW, qmW, qkW, qnW, kx, x9, if_pos cP, go]
      · simp (config := { maxSteps := 2000000 }) (disch := first | omega | (simp only [kx, qb_in, qkW, qmW, qnW, true_and, and_true, or_self, true_or, or_true, and_self]; done) | (simp only [kx, qb_in, qkW, qmW, qnW, true_and, and_true, or_self, true_or, or_true, and_self]; omega)) only [zD_12, b12_0, b12_7, b12_36, b12_52, b12_58, b12_70, b12_98, qcall_l, qcall_r, qretn_l, qJ_s, qJ_n, qV0, qEx, ↓qif0, ↓zchk_pos, ↓reduceIte, qput, qWW, qmW, qkW, qnW, kx, x9, if_neg cP, x16, x4, w3, if_neg (show ¬ l + 1 < t from fun q => cA ⟨cP, q⟩), go]
    · show M x 10 = s.1 + 1 + (P + 1)
      rw [← hM, qu_i _ _ _ _ _ (by decide), qu_s]
      omega
    · rw [← hM, qu_i _ _ _ _ _ (by decide), qu_i _ _ _ _ _ (by decide), qu_i _ _ _ _ _ (by decide), m211]
      rfl
    · have hn2 : p * (t - 1) + k - 1 < s.1 + 1 := hn2
      rw [other _ _ (fun q => by
        obtain ⟨-, f2⟩ := qix (w := t) (r := p) (c := k) (r' := P) (c' := 0) (by omega) (by omega) (by omega)
        omega) c1 c2]
      show _ = if p * (t - 1) + k - 1 = s.1 then 0 else s.2.2.2.1 (p * (t - 1) + k - 1) c
      by_cases c3 : p * (t - 1) + k - 1 = s.1
      · rw [if_pos c3]
        obtain ⟨f1, f2⟩ := qix (w := t - 1) (r := p) (c := k - 1) (r' := P) (c' := 0) (by omega) (by omega) (by omega)
        have f2 : k = 1 := by omega
        rw [f1, f2]
        exact a6 _ c (by omega) (by omega) c1 c2
      · rw [if_neg c3]
        exact a4 p k c p1 k1 k2 c1 c2 (by omega)
    · show _ = qhd w (if p * (t - 1) = s.1 then s.2.1 else s.2.2.2.2 (p * (t - 1))) p c
      by_cases c3 : p = P
      · rw [c3, if_pos hn.symm, Mc, c2q, if_pos (by omega), show P * t * w + c - P * t * w = c by omega]
      · have lt : p * (t - 1) + (t - 1) ≤ P * (t - 1) := qixm (by omega) (by omega)
        rw [if_neg (by omega), other _ _ (fun q => ?_) c1 c2]
        · exact a5 p c p1 (by omega) c1 c2
        · obtain ⟨f1, -⟩ := qix (w := t) (r := p) (c := 0) (r' := P) (c' := 0) (by omega) (by omega) (by omega)
          exact c3 f1
    · have r2 : (P + 1 - 1) * t + 1 < r := r2
      rw [show P + 1 - 1 = P by omega] at r2
      rw [other _ _ (by omega) c1 c2]
      exact a6 r c r1 (by omega) c1 c2
    · rw [← hM]
      exact qfx_t (qfx_t (qfx_t f2 (qfx_u _ 16 _ (by decide))) (qfx_u _ 10 _ (by decide))) (qfx_u _ 17 _ (by decide))
