/-! The class lays a word out behind those of a book. -/
/-- a word's own objects -/
def qWb (S : zS) (y : Int) : Prop := (zk S y = (21, 0) ∧ zk S (y + 1) = (28, 0) ∧ zk S (y + 2) = (0, 10) ∧ zk S (y + 3) = (31, 0) ∧ zk S (y + 4) = (0, 16) ∧ zk S (y + 5) = (0, 4)) ∧ (zm S y 0 = y + 1 ∧ zm S (y + 1) 0 = y + 2 ∧ zm S y 1 = y + 3 ∧ zm S (y + 3) 0 = y + 4 ∧ zm S (y + 3) 4 = y + 5) ∧ 103 ≤ y ∧ y + 6 ≤ zn S
/-- where a word stands, as the class tells it -/
def qBw (m : Int → Int → Int) (y t : Int) (s : qZs) (k : Int) : Prop := ∃ P l, (1 ≤ P ∧ 1 ≤ l ∧ l ≤ t - 1 ∧ s.1 = (P - 1) * (t - 1) + l) ∧ m y 2 = P - 1 ∧ m y 3 = l ∧ m y 4 = s.2.2.1 ∧ m y 5 = k ∧ m y 6 = s.2.1
theorem qCB_a {m : Int → Int → Int} {x w t : Int} {s : qZs} {P l : Int} (h : qCB m x w t s P l) (k : Int) : qCB (qu m x 17 k) x w t (qZa s k) P l := by
  obtain ⟨a1, ⟨a10, a11⟩, a3, a4, a5, a6⟩ := h
  have e2 : qu m x 17 k (x + 2) = m (x + 2) := qu_o _ _ _ _ _ (by omega)
  refine ⟨qPs_u a1 17 k (by decide), ⟨by rw [qu_i _ _ _ _ _ (by decide)]; exact a10, by rw [qu_i _ _ _ _ _ (by decide)]; exact a11⟩, a3, ?_, ?_, ?_⟩
  · rw [e2]; exact a4
  · rw [e2]; exact a5
  · rw [e2]; exact a6
theorem qCB_o {m m' : Int → Int → Int} {x w t : Int} {s : qZs} {P l : Int} (h : qCB m x w t s P l) (h1 : ∀ j, j = 3 ∨ j = 4 ∨ (8 ≤ j ∧ j ≤ 12) ∨ j = 16 ∨ j = 17 → m' x j = m x j) (h2 : m' (x + 2) = m (x + 2)) : qCB m' x w t s P l := by
  unfold qCB qPs qBd
  rw [h2, h1 3 (by omega), h1 4 (by omega), h1 8 (by omega), h1 9 (by omega), h1 10 (by omega), h1 11 (by omega), h1 12 (by omega), h1 16 (by omega), h1 17 (by omega)]
  exact h
theorem qCB_p {m : Int → Int → Int} {x w t : Int} {s : qZs} {P l : Int} (h : qCB m x w t s P l) (hn : 0 < s.1) : 1 ≤ P ∧ 1 ≤ l ∧ l ≤ t - 1 ∧ s.1 = (P - 1) * (t - 1) + l := h.2.2.1.resolve_left fun q => by omega
theorem s_appendPlace (e : Nat) (S : zS) (m : Int → Int → Int) (x y w t P l A B btw ah wr b c : Int) (s : qZs) (L E : List Int) (mk con : Int) (x2 x4 : zV) (he : 5 ≤ e) (hK : qK S) (hL : qLt m) (hk : qBk S x w t) (ky : zk S y = (21, 0)) (y1 : m y 1 = wr) (hyx : y ≠ x ∧ y ≠ x + 2) (hkw : qWk S wr b c) (hne : wr ≠ x ∧ wr ≠ x + 2 ∧ b ≠ x ∧ b ≠ x + 2 ∧ c ≠ x ∧ c ≠ x + 2) (hw : qWp m wr b c L mk con E) (hc : qCB m x w t s P l) (hz : qZk w s A B) (hA : A < 238) (hB : B < 700) (ho : qWo L E ah) (h0 : s.1 = 0 → ah = 1) (hb : (ah = 1 ∧ btw = 47) ∨ (ah = 2 ∧ btw = 124) ∨ (ah = 0 ∧ btw = 32)) :
    ∃ m' P' l', zF_9 e 30 [vr x, vr y, x2, vi btw, x4] [] (qW S m) = zF_9 e 106 [vr x, vr y, vu, vu, vi (qZ0 w t s L E ah).2] [] (qW S m') ∧ qCB m' x w t (qZ0 w t s L E ah).1 P' l' ∧ qfx x m m' := by
  have hk0 := hk
  obtain ⟨⟨kx, kc⟩, hW, hT, hx⟩ := hk
  have kw := hkw.1
  have o3 := ho.2.2.1
  have wn : ∀ m', qfx x m m' → m' y 1 = wr ∧ m' wr 5 = E.length := fun m' g => ⟨by rw [g.1 y hyx.1 hyx.2, y1], by rw [g.1 wr hne.1 hne.2.1]; exact hw.2.2.2.2.2.1⟩
  -- behind a new line
  have fin : ∀ (m1 : Int → Int → Int) (k : Int) (x3 x4 : zV), qfx x m m1 → zF_9 e 94 [vr x, vr y, vu, x3, x4] [vi k, vr x] (qW S m1) = zF_9 e 106 [vr x, vr y, vu, vu, vi (E.length : Int)] [] (qW S (qu m1 x 17 k)) := fun m1 k x3 x4 g => by
    obtain ⟨v1, v2⟩ := wn m1 g
    have n1 : qu m1 x 17 k y = m1 y := qu_o _ _ _ _ _ hyx.1
    have n2 : qu m1 x 17 k wr = m1 wr := qu_o _ _ _ _ _ hne.1
    rw [b9_94]
    simp (config := { maxSteps := 2000000 }) (disch := first | omega | (simp only [kx, ky, kw, n1, n2, v1, qb_in, qkW, qmW, qnW, true_and, and_true, or_self, true_or, or_true, and_self]; done) | (simp only [kx, ky, kw, n1, n2, v1, qb_in, qkW, qmW, qnW, true_and, and_true, or_self, true_or, or_true, and_self]; omega)) only [b9_0, b9_9, b9_10, b9_30, b9_36, b9_44, b9_47, b9_48, b9_55, b9_68, b9_74, b9_78, b9_82, b9_89, b9_93, b9_94, b9_106, b9_113, b9_123, b9_139, qcall_l, qcall_r, qretn_l, qJ_s, qJ_n, qV0, qEx, ↓qif0, ↓zchk_pos, ↓reduceIte, qput, qWW, qmW, qkW, qnW, kx, ky, kw, n1, n2, v1, v2]
  by_cases c1 : ah = 1
  · rw [qZ0_1 c1]
    obtain rfl : btw = 47 := by omega
    obtain ⟨m1, P1, l1, r1, d1, f1⟩ := s_beginLine e S m x w t P l A B s (by omega) hK hL hk0 hc hz (by omega) (by omega)
    refine ⟨qu m1 x 17 2, P1, l1, ?_, qCB_a d1 2, qfx_t f1 (qfx_u _ 17 _ (by decide))⟩
    have f := fin m1 2 vu vu f1
    rw [b9_30]
    simp (config := { maxSteps := 2000000 }) (disch := first | omega | (simp only [kx, qb_in, qkW, qmW, qnW, true_and, and_true, or_self, true_or, or_true, and_self]; done) | (simp only [kx, qb_in, qkW, qmW, qnW, true_and, and_true, or_self, true_or, or_true, and_self]; omega)) only [b9_0, b9_9, b9_10, b9_30, b9_36, b9_44, b9_47, b9_48, b9_55, b9_68, b9_74, b9_78, b9_82, b9_89, b9_93, b9_106, b9_113, b9_123, b9_139, qcall_l, qcall_r, qretn_l, qJ_s, qJ_n, qV0, qEx, ↓qif0, ↓zchk_pos, ↓reduceIte, qput, qWW, qmW, qkW, qnW, kx, Int.reduceEq, Int.reduceLT, r1, f]
  by_cases c2 : ah = 2
  · rw [qZ0_2 c1 c2]
    obtain rfl : btw = 124 := by omega
    have hn : 0 < s.1 := by
      by_cases q : s.1 = 0
      · exact absurd (h0 q) c1
      · have := hz.1.1; omega
    obtain ⟨m1, P1, l1, r1, d1, f1⟩ := s_turnPrintPage e S m x w t P l A B s (by omega) hK hL hk0 hc hz (by omega) (by omega) hn
    have hz1 : qZk w (qZr w (if s.1 % (t - 1) = t - 2 then qZb s else s)) (A + 1 + 1) (B + 1) := by
      refine qZk_r ?_ (by omega)
      split
      · exact qZk_b hz (by omega)
      · exact qZk_m hz (by omega) (by omega)
    obtain ⟨m2, P2, l2, r2, d2, f2⟩ := s_beginLine e S m1 x w t P1 l1 (A + 1 + 1) (B + 1) _ (by omega) hK (qfx_L f1 hx hL) hk0 d1 hz1 (by omega) (by omega)
    have f12 := qfx_t f1 f2
    refine ⟨qu m2 x 17 0, P2, l2, ?_, qCB_a d2 0, qfx_t f12 (qfx_u _ 17 _ (by decide))⟩
    have f := fin m2 0 vu vu f12
    rw [b9_30]
    simp (config := { maxSteps := 2000000 }) (disch := first | omega | (simp only [kx, qb_in, qkW, qmW, qnW, true_and, and_true, or_self, true_or, or_true, and_self]; done) | (simp only [kx, qb_in, qkW, qmW, qnW, true_and, and_true, or_self, true_or, or_true, and_self]; omega)) only [b9_0, b9_9, b9_10, b9_30, b9_36, b9_44, b9_47, b9_48, b9_55, b9_68, b9_74, b9_78, b9_82, b9_89, b9_93, b9_106, b9_113, b9_123, b9_139, qcall_l, qcall_r, qretn_l, qJ_s, qJ_n, qV0, qEx, ↓qif0, ↓zchk_pos, ↓reduceIte, qput, qWW, qmW, qkW, qnW, kx, Int.reduceEq, Int.reduceLT, r1, r2, f]
  obtain rfl : btw = 32 := by omega
  have h1 := hc.1
  have zp := hz.2.2.1
  have pw := s_partsWithRoom e (qW S m) x wr b c L E mk con w s.2.2.1 (by omega) kx h1.1.1 h1.2.1.2.2 (by omega) (by omega) hkw hw o3 (fun j j1 j2 => by have := ho.2.2.2.1 j j1 j2; have := ho.1; omega)
  by_cases c3 : s.2.2.1 + 1 + L.length ≤ w
  · rw [qZ0_3 c1 c2 c3]
    rw [if_neg (show ¬ w - s.2.2.1 - 1 < L.length by omega)] at pw
    refine ⟨qu m x 17 (s.2.2.1 + 1), P, l, ?_, qCB_a hc _, qfx_u _ 17 _ (by decide)⟩
    have z1 : z32 (s.2.2.1 + 1) = s.2.2.1 + 1 := q32 (by omega)
    have p17 := h1.2.1.2.2
    rw [b9_30]
    simp (config := { maxSteps := 2000000 }) (disch := first | omega | (simp only [kx, ky, y1, qb_in, qkW, qmW, qnW, true_and, and_true, or_self, true_or, or_true, and_self]; done) | (simp only [kx, ky, y1, qb_in, qkW, qmW, qnW, true_and, and_true, or_self, true_or, or_true, and_self]; omega)) only [b9_0, b9_9, b9_10, b9_30, b9_36, b9_44, b9_47, b9_48, b9_55, b9_68, b9_74, b9_78, b9_82, b9_89, b9_93, b9_106, b9_113, b9_123, b9_139, qcall_l, qcall_r, qretn_l, qJ_s, qJ_n, qV0, qEx, ↓qif0, ↓zchk_pos, ↓reduceIte, qput, qWW, qmW, qkW, qnW, kx, ky, y1, pw, if_pos (show (0 : Int) < (E.length : Nat) by omega), p17, z1]
  · rw [if_pos (show w - s.2.2.1 - 1 < L.length by omega), show w - s.2.2.1 - 1 = w - (s.2.2.1 + 1) by omega] at pw
    by_cases c4 : qpm E (w - (s.2.2.1 + 1)) (E.length - 1) = 0
    · rw [qZ0_4 c1 c2 c3 c4]
      rw [c4] at pw
      obtain ⟨m1, P1, l1, r1, d1, f1⟩ := s_beginLine e S m x w t P l A B s (by omega) hK hL hk0 hc hz (by omega) (by omega)
      refine ⟨qu m1 x 17 0, P1, l1, ?_, qCB_a d1 0, qfx_t f1 (qfx_u _ 17 _ (by decide))⟩
      have f := fin m1 0 vu vu f1
      rw [b9_30]
      simp (config := { maxSteps := 2000000 }) (disch := first | omega | (simp only [kx, ky, y1, qb_in, qkW, qmW, qnW, true_and, and_true, or_self, true_or, or_true, and_self]; done) | (simp only [kx, ky, y1, qb_in, qkW, qmW, qnW, true_and, and_true, or_self, true_or, or_true, and_self]; omega)) only [b9_0, b9_9, b9_10, b9_30, b9_36, b9_44, b9_47, b9_48, b9_55, b9_68, b9_74, b9_78, b9_82, b9_89, b9_93, b9_106, b9_113, b9_123, b9_139, qcall_l, qcall_r, qretn_l, qJ_s, qJ_n, qV0, qEx, ↓qif0, ↓zchk_pos, ↓reduceIte, qput, qWW, qmW, qkW, qnW, kx, ky, y1, pw, Int.reduceEq, Int.reduceLT, r1, f]
    · rw [qZ0_5 c1 c2 c3 c4]
      have pr := qpm_r E (w - (s.2.2.1 + 1)) (E.length - 1)
      refine ⟨qu m x 17 (s.2.2.1 + 1), P, l, ?_, qCB_a hc _, qfx_u _ 17 _ (by decide)⟩
      have z1 : z32 (s.2.2.1 + 1) = s.2.2.1 + 1 := q32 (by omega)
      have p17 := h1.2.1.2.2
      rw [b9_30]
      simp (config := { maxSteps := 2000000 }) (disch := first | omega | (simp only [kx, ky, y1, qb_in, qkW, qmW, qnW, true_and, and_true, or_self, true_or, or_true, and_self]; done) | (simp only [kx, ky, y1, qb_in, qkW, qmW, qnW, true_and, and_true, or_self, true_or, or_true, and_self]; omega)) only [b9_0, b9_9, b9_10, b9_30, b9_36, b9_44, b9_47, b9_48, b9_55, b9_68, b9_74, b9_78, b9_82, b9_89, b9_93, b9_106, b9_113, b9_123, b9_139, qcall_l, qcall_r, qretn_l, qJ_s, qJ_n, qV0, qEx, ↓qif0, ↓zchk_pos, ↓reduceIte, qput, qWW, qmW, qkW, qnW, kx, ky, y1, pw, if_pos (show 0 < qpm E (w - (s.2.2.1 + 1)) (E.length - 1) by omega), p17, z1]
theorem s_append (d : Nat) (S : zS) (x y w t P l A B btw ah a ra rb N g D cnt mk st dg bg : Int) (Pp : Int) (T : Int → Int → Int) (s : qZs) (W L E : List Int) (h : 9 ≤ d) (hK : qK S) (hLt : qLt (zm S)) (hk : qBk S x w t) (hy : qWb S y) (kl : zk S (x + 1) = (11, 80)) (x1 : zm S x 1 = a) (x2 : zm S x 2 = g) (x6 : zm S x 6 = x + 1) (x7 : zm S x 7 = cnt) (hcnt : 0 ≤ cnt ∧ cnt < 80)
    (ha : qCo S a N T) (hT : qTok T N) (hsa : qSq (zm S) (y + 1) (y + 2) W st dg bg mk) (hW : qWk2 W dg st bg 0) (hmk : 0 ≤ mk ∧ mk < 64) (hdg : dg = 1 → Pp = 0) (hD : qDo S D Pp W.length) (hDc : D ≠ 0 → zm S D 2 ≠ y + 5) (h4 : (qpl Pp W.length W.length).length ≤ 4) (hra : zm S a 3 = ra) (hks : qSk S ra rb) (hrb : zm S ra 0 = rb) (hne : y + 1 ≠ ra ∧ y + 2 ≠ rb) (hr0 : ra ≠ 0)
    (hL : L = qwL T N g W Pp dg st bg mk) (hE : E = qwE T N g W Pp dg st bg) (ho : qWo L E ah) (hc : qCB (zm S) x w t s P l) (hz : qZk w s A B) (hA : A < 238) (hB : B < 700) (h0 : s.1 = 0 → ah = 1) (hb : (ah = 1 ∧ btw = 47) ∨ (ah = 2 ∧ btw = 124) ∨ (ah = 0 ∧ btw = 32)) :
    ∃ m' P' l', zD d 9 [vr x, vr y, vr D, vi btw] S = some (.inl none, qW S m') ∧ qCB m' x w t (qZ w t s L E ah) P' l' ∧ qBw m' y t (qZ0 w t s L E ah).1 (qZ0 w t s L E ah).2 ∧ qWp m' (y + 3) (y + 4) (y + 5) L (qwM T N g W Pp dg) (qwU T N g W Pp dg) E ∧
      (∀ j, m' (x + 1) j = if j = cnt then y else zm S (x + 1) j) ∧ m' x 7 = cnt + 1 ∧ (∀ j, j ≠ 7 → j ≠ 9 → j ≠ 10 → j ≠ 11 → j ≠ 12 → j ≠ 16 → j ≠ 17 → m' x j = zm S x j) ∧ (m' y 0 = y + 1 ∧ m' y 1 = y + 3) ∧ m' ra 0 = rb ∧ ∀ z, z ≠ x → z ≠ x + 1 → z ≠ x + 2 → z ≠ y → z ≠ y + 3 → z ≠ y + 4 → z ≠ y + 5 → z ≠ ra → z ≠ rb → m' z = zm S z := by
  obtain ⟨e, rfl, he⟩ := qd h
  have hk0 := hk
  obtain ⟨⟨kx, kc⟩, hw18, ht3, hx⟩ := hk
  obtain ⟨⟨ky, ky1, ky2, ky3, ky4, ky5⟩, ⟨y0, y10, y1, y30, y34⟩, hy103, hyn⟩ := hy
  have kra := hks.1
  have krb := hks.2
  have kw : qWk S (y + 3) (y + 4) (y + 5) := ⟨ky3, ky4, ky5, by omega, by omega, by omega⟩
  obtain ⟨hw1, hw2, hw3, hw4, -, hw6⟩ := hW
  have ka : zk S a = (22, 0) := ha.1
  obtain ⟨m1, r1, p1, f1, fr⟩ := s_write e S a N g (y + 1) (y + 2) (y + 3) (y + 4) (y + 5) D Pp ra rb mk st dg bg T W (by omega) hK hLt ha hT ⟨ky1, ky2⟩ hsa hw1 hw2 (by
    rcases hw3 with q | ⟨q1, q2, q3, q4⟩
    · exact Or.inl q.1
    · exact Or.inr ⟨q1, q2, hdg q1, q4⟩) hw4 hD hDc h4 kw ⟨y30, y34⟩ hra hks hrb hne
  rw [← hL, ← hE] at p1
  have hL' : L.length ≤ 16 := ho.1
  -- what the writing leaves
  have xne : x ≠ y + 3 ∧ x ≠ y + 4 ∧ x ≠ y + 5 ∧ x ≠ ra ∧ x ≠ rb := ⟨qkne kx ky3 (by decide), qkne kx ky4 (by decide), qkne kx ky5 (by decide), qkne kx kra (by decide), qkne kx krb (by decide)⟩
  have x2ne : x + 2 ≠ y + 3 ∧ x + 2 ≠ y + 4 ∧ x + 2 ≠ y + 5 ∧ x + 2 ≠ ra ∧ x + 2 ≠ rb := ⟨qkne kc ky3 (by simp), qkne kc ky4 (by simp), qkne kc ky5 (by simp), qkne kc kra (by simp), qkne kc krb (by simp)⟩
  have x1ne : x + 1 ≠ y + 3 ∧ x + 1 ≠ y + 4 ∧ x + 1 ≠ y + 5 ∧ x + 1 ≠ ra ∧ x + 1 ≠ rb := ⟨qkne kl ky3 (by decide), qkne kl ky4 (by decide), qkne kl ky5 (by decide), qkne kl kra (by decide), qkne kl krb (by decide)⟩
  have yne : y ≠ ra ∧ y ≠ rb := ⟨qkne ky kra (by decide), qkne ky krb (by decide)⟩
  have xy : x ≠ y ∧ x + 2 ≠ y ∧ x + 1 ≠ y := ⟨qkne kx ky (by decide), qkne kc ky (by simp), qkne kl ky (by decide)⟩
  have f1x : m1 x = zm S x := f1 x xne.1 xne.2.1 xne.2.2.1 xne.2.2.2.1 xne.2.2.2.2
  have f1x2 : m1 (x + 2) = zm S (x + 2) := f1 _ x2ne.1 x2ne.2.1 x2ne.2.2.1 x2ne.2.2.2.1 x2ne.2.2.2.2
  have f1x1 : m1 (x + 1) = zm S (x + 1) := f1 _ x1ne.1 x1ne.2.1 x1ne.2.2.1 x1ne.2.2.2.1 x1ne.2.2.2.2
  have f1y : m1 y = zm S y := f1 y (by omega) (by omega) (by omega) yne.1 yne.2
  have c1 : qCB m1 x w t s P l := qCB_o hc (fun j _ => by rw [f1x]) f1x2
  have hLt1 : qLt m1 := fun q hq => by
    have n2 : ∀ z k, zk S z = k → k ≠ (40, 26) → (2 : Int) ≠ z := fun z k hz hk q => hk (by rw [← hz, ← q]; exact K_2 hK)
    rw [f1 2 (by omega) (by omega) (by omega) (n2 _ _ kra (by decide)) (n2 _ _ krb (by decide))]
    exact hLt q hq
  have hne3 : y + 3 ≠ x ∧ y + 3 ≠ x + 2 ∧ y + 4 ≠ x ∧ y + 4 ≠ x + 2 ∧ y + 5 ≠ x ∧ y + 5 ≠ x + 2 := ⟨Ne.symm xne.1, Ne.symm x2ne.1, Ne.symm xne.2.1, Ne.symm x2ne.2.1, Ne.symm xne.2.2.1, Ne.symm x2ne.2.2.1⟩
  -- where it begins
  obtain ⟨m2, P2, l2, r2, c2, f2⟩ := s_appendPlace e S m1 x y w t P l A B btw ah (y + 3) (y + 4) (y + 5) s L E _ _ vu vu (by omega) hK hLt1 hk0 ky (by rw [f1y, y1]) ⟨Ne.symm xy.1, Ne.symm xy.2.1⟩ kw hne3 p1 c1 hz hA hB ho h0 hb
  have zf := qZ0_f (t := t) hz hw18.1 ho h0
  have hq : qZ w t s L E ah = qZ1 (qZ0 w t s L E ah).1 L (qlp L E (qZ0 w t s L E ah).2) := rfl
  obtain ⟨⟨s0, k⟩, hr⟩ : ∃ r, qZ0 w t s L E ah = r := ⟨_, rfl⟩
  rw [hr] at zf r2 c2 hq ⊢
  rw [hq]
  obtain ⟨z1, z2, z3, z4, z5⟩ := zf
  have z1o : qZk w s0 (if qlp L E k < L.length then A else A + 3) (B + 1) := z1
  have z1 : qZk w s0 (A + 3) (B + 1) := by
    refine qZk_m z1 ?_ (Int.le_refl _)
    split <;> omega
  have z2 : 0 < s0.1 := z2
  have c2 : qCB m2 x w t s0 P2 l2 := c2
  obtain ⟨b1, b2, b3, b4⟩ := qCB_p c2 z2
  have g2 := c2.1.2.1
  have Pb : P2 < 10000 := by
    have : (P2 - 1) * 1 ≤ (P2 - 1) * (t - 1) := Int.mul_le_mul_of_nonneg_left (by omega) (by omega)
    have := z1.1.2
    omega
  -- where it stands is told
  have tp := s_tellPlace e S m2 x y k (by omega) kx ky (by rw [g2.1]; omega)
  obtain ⟨m3, hm3⟩ : ∃ M, qu (qu (qu (qu (qu m2 y 2 (m2 x 9 - 1)) y 3 (m2 x 16)) y 4 (m2 x 17)) y 5 k) y 6 (m2 x 11) = M := ⟨_, rfl⟩
  rw [hm3] at tp
  have o3 : ∀ z, z ≠ y → m3 z = m2 z := fun z hz => by rw [← hm3, qu_o _ _ _ _ _ hz, qu_o _ _ _ _ _ hz, qu_o _ _ _ _ _ hz, qu_o _ _ _ _ _ hz, qu_o _ _ _ _ _ hz]
  have w3 : m3 y 2 = P2 - 1 ∧ m3 y 3 = l2 ∧ m3 y 4 = s0.2.2.1 ∧ m3 y 5 = k ∧ m3 y 6 = s0.2.1 := by
    refine ⟨?_, ?_, ?_, ?_, ?_⟩
    · rw [← hm3, qu_i _ _ _ _ _ (by decide), qu_i _ _ _ _ _ (by decide), qu_i _ _ _ _ _ (by decide), qu_i _ _ _ _ _ (by decide), qu_s, g2.1]
    · rw [← hm3, qu_i _ _ _ _ _ (by decide), qu_i _ _ _ _ _ (by decide), qu_i _ _ _ _ _ (by decide), qu_s, g2.2.1]
    · rw [← hm3, qu_i _ _ _ _ _ (by decide), qu_i _ _ _ _ _ (by decide), qu_s, g2.2.2]
    · rw [← hm3, qu_i _ _ _ _ _ (by decide), qu_s]
    · rw [← hm3, qu_s, c2.2.1.2]
  have i3 : ∀ j, j < 2 → m3 y j = m2 y j := fun j hj => by rw [← hm3, qu_i _ _ _ _ _ (by omega), qu_i _ _ _ _ _ (by omega), qu_i _ _ _ _ _ (by omega), qu_i _ _ _ _ _ (by omega), qu_i _ _ _ _ _ (by omega)]
  have c3 : qCB m3 x w t s0 P2 l2 := qCB_o c2 (fun j _ => by rw [o3 x xy.1]) (o3 _ xy.2.1)
  have p3 : qWp m3 (y + 3) (y + 4) (y + 5) L (qwM T N g W Pp dg) (qwU T N g W Pp dg) E := qWp_o p1 (by rw [o3 _ (by omega), f2.1 _ hne3.1 hne3.2.1]) (by rw [o3 _ (by omega), f2.1 _ hne3.2.2.1 hne3.2.2.2.1]) (by rw [o3 _ (by omega), f2.1 _ hne3.2.2.2.2.1 hne3.2.2.2.2.2])
  have hLt3 : qLt m3 := fun q hq => by rw [o3 2 (by omega)]; exact qfx_L f2 hx hLt1 q hq
  -- it is put
  obtain ⟨m4, P4, l4, r4, c4, f4⟩ := s_putWord e S m3 x w t P2 l2 (if qlp L E k < L.length then A else A + 3) (B + 1) (y + 3) (y + 4) (y + 5) k s0 L E _ _ (by omega) hK hLt3 hk0 (by split <;> omega) (by omega) kw hne3 ho.2.1 hL' ho.2.2.1.2 c3 z1o z2 z4 z5 p3
  have x4 : ∀ j, j ≠ 9 → j ≠ 10 → j ≠ 11 → j ≠ 12 → j ≠ 16 → j ≠ 17 → m4 x j = zm S x j := fun j j1 j2 j3 j4 j5 j6 => by rw [f4.2 j j1 j2 j3 j4 j5 j6, o3 x xy.1, f2.2 j j1 j2 j3 j4 j5 j6, f1x]
  have e4 : ∀ z, z ≠ x → z ≠ x + 2 → z ≠ y → m4 z = m1 z := fun z h1 h2 h3 => by rw [f4.1 z h1 h2, o3 z h3, f2.1 z h1 h2]
  have y4 : ∀ j, m4 y j = m3 y j := fun j => by rw [f4.1 y (Ne.symm xy.1) (Ne.symm xy.2.1)]
  have n7 : m4 x 7 = cnt := by rw [x4 7 (by decide) (by decide) (by decide) (by decide) (by decide) (by decide), x7]
  have n6 : m4 x 6 = x + 1 := by rw [x4 6 (by decide) (by decide) (by decide) (by decide) (by decide) (by decide), x6]
  obtain ⟨m5, hm5⟩ : ∃ M, qu (qu m4 (x + 1) cnt y) x 7 (cnt + 1) = M := ⟨_, rfl⟩
  have o5 : ∀ z, z ≠ x → z ≠ x + 1 → m5 z = m4 z := fun z h1 h2 => by rw [← hm5, qu_o _ _ _ _ _ h1, qu_o _ _ _ _ _ h2]
  have i5 : ∀ j, j ≠ 7 → m5 x j = m4 x j := fun j hj => by rw [← hm5, qu_i _ _ _ _ _ hj, qu_o _ _ _ _ _ (by omega)]
  refine ⟨m5, P4, l4, ?_, qCB_o c4 (fun j hj => i5 j (by omega)) (o5 _ (by omega) (by omega)), ⟨P2, l2, ⟨b1, b2, b3, b4⟩, ?_⟩, qWp_o p3 (by rw [o5 _ hne3.1 (Ne.symm x1ne.1), f4.1 _ hne3.1 hne3.2.1]) (by rw [o5 _ hne3.2.2.1 (Ne.symm x1ne.2.1), f4.1 _ hne3.2.2.1 hne3.2.2.2.1]) (by rw [o5 _ hne3.2.2.2.2.1 (Ne.symm x1ne.2.2.1), f4.1 _ hne3.2.2.2.2.1 hne3.2.2.2.2.2]), fun j => ?_, by rw [← hm5, qu_s], fun j j0 j1 j2 j3 j4 j5 j6 => by rw [i5 j j0, x4 j j1 j2 j3 j4 j5 j6], ⟨?_, ?_⟩, ?_, fun z h1 h2 h3 h4 h5 h6 h7 h8 h9 => by rw [o5 z h1 h2, e4 z h1 h3 h4, f1 z h5 h6 h7 h8 h9]⟩
  · have zz : z32 (cnt + 1) = cnt + 1 := q32 (by omega)
    have e1 : m1 y 1 = y + 3 := by rw [f1y, y1]
    have e3 : m3 y 1 = y + 3 := by rw [i3 1 (by decide), f2.1 y (Ne.symm xy.1) (Ne.symm xy.2.1), e1]
    have n7' : qu m4 (x + 1) cnt y x 7 = cnt := by rw [qu_o _ _ _ _ _ (by omega), n7]
    have r2 : zF_9 e 30 [vr x, vr y, vu, vi btw, vu] [] (qW S m1) = zF_9 e 106 [vr x, vr y, vu, vu, vi k] [] (qW S m2) := r2
    simp (config := { maxSteps := 2000000 }) (disch := first | omega | (simp only [kx, ky, ka, x1, qb_in, qkW, qmW, qnW, true_and, and_true, or_self, true_or, or_true, and_self]; done) | (simp only [kx, ky, ka, x1, qb_in, qkW, qmW, qnW, true_and, and_true, or_self, true_or, or_true, and_self]; omega)) only [zD_9, b9_0, b9_9, b9_10, b9_36, b9_44, b9_47, b9_48, b9_55, b9_68, b9_74, b9_78, b9_82, b9_89, b9_93, b9_94, b9_113, b9_123, b9_139, qcall_l, qcall_r, qretn_l, qJ_s, qJ_n, qV0, qEx, ↓qif0, ↓zchk_pos, ↓reduceIte, qput, qWW, qmW, qkW, qnW, kx, ky, ka, x1, x2, x7, y0, y1, if_pos hcnt.2, r1]
    rw [b9_30] at r2 ⊢
    rw [r2, b9_106]
    simp (config := { maxSteps := 2000000 }) (disch := first | omega | (simp only [kx, ky, kl, ky3, e3, n6, n7, qb_in, qkW, qmW, qnW, true_and, and_true, or_self, true_or, or_true, and_self]; done) | (simp only [kx, ky, kl, ky3, e3, n6, n7, qb_in, qkW, qmW, qnW, true_and, and_true, or_self, true_or, or_true, and_self]; omega)) only [b9_0, b9_9, b9_10, b9_36, b9_44, b9_47, b9_48, b9_55, b9_68, b9_74, b9_78, b9_82, b9_89, b9_93, b9_94, b9_113, b9_123, b9_139, qcall_l, qcall_r, qretn_l, qJ_s, qJ_n, qV0, qEx, ↓qif0, ↓zchk_pos, ↓reduceIte, qput, qWW, qmW, qkW, qnW, kx, ky, kl, ky3, tp, e3, r4, n6, n7, n7', zz, hm5]
  · rw [o5 y (Ne.symm xy.1) (Ne.symm xy.2.2), y4, y4, y4, y4, y4]
    exact w3
  · rw [← hm5, qu_o _ _ _ _ _ (by omega), qu_row]
    show (if j = cnt then y else m4 (x + 1) j) = _
    rw [e4 (x + 1) (by omega) (by omega) xy.2.2, f1x1]
  · rw [o5 y (Ne.symm xy.1) (Ne.symm xy.2.2), y4, i3 0 (by decide), f2.1 y (Ne.symm xy.1) (Ne.symm xy.2.1), f1y, y0]
  · rw [o5 y (Ne.symm xy.1) (Ne.symm xy.2.2), y4, i3 1 (by decide), f2.1 y (Ne.symm xy.1) (Ne.symm xy.2.1), f1y, y1]
  · rw [o5 ra (Ne.symm xne.2.2.2.1) (Ne.symm x1ne.2.2.2.1), e4 ra (Ne.symm xne.2.2.2.1) (Ne.symm x2ne.2.2.2.1) (Ne.symm yne.1), fr, hrb]
