/-! The print page turns; a word is put, line by line. -/
theorem qdmod {a d l : Int} (h : 0 ≤ l ∧ l < d) : (a * d + l) % d = l ∧ (a * d + l) / d = a := by
  have h1 : (a * d + l) % d = l := by
    rw [Int.add_comm, Int.add_mul_emod_self_right, Int.emod_eq_of_lt h.1 h.2]
  refine ⟨h1, ?_⟩
  have h2 := Int.mul_ediv_add_emod (a * d + l) d
  rw [h1, Int.mul_comm d] at h2
  rcases Int.lt_trichotomy ((a * d + l) / d) a with q | q | q
  · have := qixm (w := d) (by omega) q
    omega
  · exact q
  · have := qixm (w := d) (by omega) q
    omega
/-- cells of one kind, one behind the other -/
theorem s_hyphens (e : Nat) (S : zS) (x w t P l A B k : Int) (he : 2 ≤ e) (hk : qBk S x w t) (hA : A ≤ 240) (hk2 : 0 ≤ k ∧ k ≤ w) :
    ∀ (f i : Nat) (m : Int → Int → Int) (s : qZs), (i : Int) + f = k → qCB m x w t s P l → qZk w s A B → 0 < s.1 → s.2.2.1 = i → ∃ m', zF_11 e 55 [vr x, vi k, vi (i : Int)] [] (qW S m) = zF_11 e 72 [vr x, vi k, vi k] [] (qW S m') ∧ qCB m' x w t (qZu s (List.replicate f 36)) P l ∧ qfx x m m' := by
  have kx := hk.1.1
  intro f
  induction f with
  | zero =>
    intro i m s hi hc hz hn hp
    refine ⟨m, ?_, by rw [List.replicate_zero, qZu_0]; exact hc, qfx_r _ _⟩
    have hik : (i : Int) = k := by omega
    rw [b11_55, hik, if_neg (by omega)]
  | succ f ih =>
    intro i m s hi hc hz hn hp
    obtain ⟨m1, r1, c1, f1⟩ := s_putCB e S m x w t P l 36 A B s he hk hc hz hA hn (by omega) (by decide)
    have hz1 : qZk w (qZu s [36]) A B := qZk_u hz (fun i i1 i2 => by
      have i2 : i < ((1 : Nat) : Int) := i2
      obtain rfl : i = 0 := by omega
      decide) (by show s.2.2.1 + ((1 : Nat) : Int) ≤ w; omega)
    obtain ⟨m2, r2, c2, f2⟩ := ih (i + 1) m1 (qZu s [36]) (by omega) c1 hz1 hn (by show s.2.2.1 + ((1 : Nat) : Int) = ((i + 1 : Nat) : Int); omega)
    have z1 : z32 ((i : Int) + 1) = ((i + 1 : Nat) : Int) := by rw [q32 (by have := hk.2.1; omega)]; omega
    refine ⟨m2, ?_, ?_, qfx_t f1 f2⟩
    · rw [← r2, b11_55]
      simp (config := { maxSteps := 2000000 }) (disch := first | omega | (simp only [kx, qb_in, qkW, qmW, qnW, true_and, and_true, or_self, true_or, or_true, and_self]; done) | (simp only [kx, qb_in, qkW, qmW, qnW, true_and, and_true, or_self, true_or, or_true, and_self]; omega)) only [b11_0, b11_7, b11_22, b11_26, b11_40, b11_51, b11_60, b11_66, b11_80, qcall_l, qcall_r, qretn_l, qJ_s, qJ_n, qV0, qEx, ↓qif0, ↓zchk_pos, ↓reduceIte, qput, qWW, qmW, qkW, qnW, kx, if_pos (show (i : Int) < k by omega), r1, z1]
    · rw [qZu_u] at c2
      exact c2
theorem qhyp_n (k : Nat) (i : Int) (h : 0 ≤ i ∧ i < k) : qnth (List.replicate k 36) i = 36 := by
  unfold qnth
  rw [List.getD_eq_getElem?_getD, List.getElem?_replicate, if_pos (by omega)]
  rfl
theorem s_turnPrintPage (d : Nat) (S : zS) (m : Int → Int → Int) (x w t P l A B : Int) (s : qZs) (h : 5 ≤ d) (hK : qK S) (hL : qLt m) (hk : qBk S x w t) (hs : qCB m x w t s P l) (hz : qZk w s A B) (hA : A < 238) (hB : B < 800) (hn : 0 < s.1) :
    ∃ m' P' l', zD d 11 [vr x] (qW S m) = some (.inl none, qW S m') ∧ qCB m' x w t (qZr w (if s.1 % (t - 1) = t - 2 then qZb s else s)) P' l' ∧ qfx x m m' := by
  obtain ⟨e, rfl, he⟩ := qd h
  have hk0 := hk
  obtain ⟨⟨kx, kc⟩, hw, ht, hx⟩ := hk
  have hs0 := hs
  obtain ⟨a1, ⟨a10, a11⟩, a3, a4, a5, a6⟩ := hs
  obtain ⟨b1, b2, b3, b4⟩ : 1 ≤ P ∧ 1 ≤ l ∧ l ≤ t - 1 ∧ s.1 = (P - 1) * (t - 1) + l := a3.resolve_left fun q => by omega
  -- behind the empty line
  have fin : ∀ (m1 : Int → Int → Int) (s1 : qZs) (P1 l1 A1 : Int), qCB m1 x w t s1 P1 l1 → qZk w s1 A1 B → A1 < 239 → s1.2.1 = s.2.1 → qfx x m m1 → ∃ m' P' l', zF_11 e 26 [vr x, vu, vu] [] (qW S m1) = some (.inl none, qW S m') ∧ qCB m' x w t (qZr w s1) P' l' ∧ qfx x m m' := by
    intro m1 s1 P1 l1 A1 hc hz1 hA1 hp1 f1
    have zp := hz1.2.1
    have nr := qnu_r (s1.2.1 + 1)
    obtain ⟨g1, ⟨g10, g11⟩, g3, g4, g5, g6⟩ := hc
    obtain ⟨M0, hM0⟩ : ∃ M, qu m1 x 11 (s1.2.1 + 1) = M := ⟨_, rfl⟩
    have M0c : M0 (x + 2) = m1 (x + 2) := by rw [← hM0, qu_o _ _ _ _ _ (by omega)]
    have f0 : qfx x m M0 := qfx_t f1 (by rw [← hM0]; exact qfx_u _ 11 _ (by decide))
    obtain ⟨s2, hs2⟩ : ∃ s2 : qZs, (s1.1, s1.2.1 + 1, s1.2.2) = s2 := ⟨_, rfl⟩
    have c0 : qCB M0 x w t s2 P1 l1 := by
      rw [← hs2]
      refine ⟨?_, ⟨by rw [← hM0, qu_i _ _ _ _ _ (by decide)]; exact g10, by rw [← hM0, qu_s]⟩, g3, ?_, ?_, ?_⟩
      · have := qPs_u g1 11 (s1.2.1 + 1) (by decide)
        rw [hM0] at this
        exact this
      · rw [M0c]; exact g4
      · rw [M0c]; exact g5
      · rw [M0c]; exact g6
    have hz2 : qZk w s2 A1 (B + 1) := by
      rw [← hs2]
      obtain ⟨k1, k2, k3, k4, k5, k6, k7⟩ := hz1
      exact ⟨k1, ⟨by show 1 ≤ s1.2.1 + 1; omega, by show s1.2.1 + 1 ≤ B + 1; omega⟩, k3, k4, k5, k6, fun l l1 l2 => by have := k7 l l1 l2; show 1 ≤ s1.2.2.2.2 l ∧ s1.2.2.2.2 l ≤ B + 1; omega⟩
    obtain ⟨m2, P2, l2, r2, c2, f2⟩ := s_beginLine e S M0 x w t P1 l1 A1 (B + 1) s2 (by omega) hK (qfx_L f0 hx hL) hk0 c0 hz2 (by omega) (by omega)
    have hz3 : qZk w (qZb s2) (A1 + 1) (B + 1) := qZk_b hz2 (by omega)
    have n3 : 0 < (qZb s2).1 := by
      have := hz2.1.1
      show 0 < s2.1 + 1
      omega
    have p11 : m2 x 11 = s1.2.1 + 1 := by
      rw [c2.2.1.2, ← hs2]
      rfl
    have p3 : m2 x 3 = w := c2.1.1.1
    have ln := s_lengthOfNumber e (qW S m2) (s1.2.1 + 1) (by omega)
    have z1 : z32 (w - (qnu (s1.2.1 + 1) + 1)) = w - (qnu (s1.2.1 + 1) + 1) := q32 (by omega)
    obtain ⟨k, hkk⟩ : ∃ k : Nat, (k : Int) = w - (qnu (s1.2.1 + 1) + 1) := ⟨(w - (qnu (s1.2.1 + 1) + 1)).toNat, by omega⟩
    rw [← hkk] at z1
    obtain ⟨m3, r3, c3, f3⟩ := s_hyphens e S x w t P2 l2 (A1 + 1) (B + 1) k (by omega) hk0 (by omega) (by omega) k 0 m2 (qZb s2) (by omega) c2 hz3 n3 rfl
    have r3 : zF_11 e 55 [vr x, vi k, vi 0] [] (qW S m2) = zF_11 e 72 [vr x, vi k, vi k] [] (qW S m3) := r3
    have hz4 : qZk w (qZu (qZb s2) (List.replicate k 36)) (A1 + 1) (B + 1) := qZk_u hz3 (fun i i1 i2 => by
      rw [List.length_replicate] at i2
      rw [qhyp_n k i ⟨i1, i2⟩]
      decide) (by rw [List.length_replicate]; show 0 + (k : Int) ≤ w; omega)
    have p311 : m3 x 11 = s1.2.1 + 1 := by
      rw [c3.2.1.2, ← hs2]
      rfl
    have pl3 : (qZu (qZb s2) (List.replicate k 36)).2.2.1 = k := by
      show 0 + ((List.replicate k (36 : Int)).length : Int) = k
      rw [List.length_replicate]
      omega
    have c3' := c3
    obtain ⟨h1, -, h3, h4, h5, h6⟩ := c3
    have hz4' := hz4
    obtain ⟨⟨y1, y2⟩, -, -, -, y5, -⟩ := hz4
    rw [pl3] at h1 y5
    obtain ⟨b1, b2, b3, b4⟩ : 1 ≤ P2 ∧ 1 ≤ l2 ∧ l2 ≤ t - 1 ∧ (qZu (qZb s2) (List.replicate k 36)).1 = (P2 - 1) * (t - 1) + l2 := h3.resolve_left fun q => by have : (qZu (qZb s2) (List.replicate k 36)).1 = (qZb s2).1 := rfl; omega
    have hP2 : P2 ≤ qmp t := by
      obtain ⟨-, -, -, -, q5⟩ := qmp_r ht
      by_cases c : P2 ≤ qmp t
      · exact c
      · have := qixm (w := t - 1) (a := qmp t) (b := P2) (by omega) (by omega)
        have e : (P2 - 1) * (t - 1) = P2 * (t - 1) - (t - 1) := by rw [Int.sub_mul, Int.one_mul]
        omega
    have zr : ∀ i, (k : Int) ≤ i → i < w → m3 (x + 2) (((P2 - 1) * t + l2) * w + i) = 0 := fun i i1 i2 => by
      have := h4 (P2 - 1) l2 i (by omega) b2 b3 (by omega) i2 (by omega)
      rw [show (P2 - 1) * (t - 1) + l2 - 1 = (qZu (qZb s2) (List.replicate k 36)).1 - 1 by omega, y5 i i1] at this
      exact this
    obtain ⟨m4, r4, p4, s4⟩ := s_putNumber e S m3 x w t P2 l2 k (s1.2.1 + 1) (by omega) hK (qfx_L (qfx_t (qfx_t f0 f2) f3) hx hL) hk0 h1 ⟨b1, hP2⟩ (by omega) (by omega) (by omega) zr
    have nl := qnl_l (s1.2.1 + 1)
    have c4 : qCB m4 x w t (qZu (qZu (qZb s2) (List.replicate k 36)) (qnl (s1.2.1 + 1))) P2 l2 := by
      refine qCB_u c3' (by rw [b4]; have := Int.mul_nonneg (show 0 ≤ P2 - 1 by omega) (show 0 ≤ t - 1 by omega); omega) (by rw [pl3, nl]; omega) ?_ ?_
      · rw [pl3, nl, show (k : Int) + (qnu (s1.2.1 + 1) + 1) = k + qnu (s1.2.1 + 1) + 1 by omega]
        exact p4
      · rw [pl3, nl, show (k : Int) + (qnu (s1.2.1 + 1) + 1) = k + qnu (s1.2.1 + 1) + 1 by omega]
        exact s4
    refine ⟨m4, P2, l2, ?_, qCB_e c4 ?_ ?_ ?_ (fun l c c1 c2 => ?_) ?_, qfx_t (qfx_t (qfx_t f0 f2) f3) (qfx_l p4)⟩
    · have w1 : z32 (s1.2.1 + 1) = s1.2.1 + 1 := q32 (by omega)
      rw [b11_26]
      simp (config := { maxSteps := 2000000 }) (disch := first | omega | (simp only [kx, qb_in, qkW, qmW, qnW, true_and, and_true, or_self, true_or, or_true, and_self]; done) | (simp only [kx, qb_in, qkW, qmW, qnW, true_and, and_true, or_self, true_or, or_true, and_self]; omega)) only [b11_0, b11_7, b11_22, b11_40, b11_51, b11_60, b11_66, b11_72, b11_80, qcall_l, qcall_r, qretn_l, qJ_s, qJ_n, qV0, qEx, ↓qif0, ↓zchk_pos, ↓reduceIte, qput, qWW, qmW, qkW, qnW, kx, g11, w1, hM0, r2, p11, p3, ln, ← hkk, z1, r3, p311, r4]
    · rw [← hs2]; rfl
    · rw [← hs2]; rfl
    · show w = (qZu (qZb s2) (List.replicate k 36)).2.2.1 + ((qnl (s1.2.1 + 1)).length : Int)
      rw [pl3, nl]
      omega
    · rw [qZu_u, ← hs2]
      show (if l = s1.1 then qbar w (s1.2.1 + 1) c else s1.2.2.2.1 l c) = if l = s1.1 + 1 - 1 ∧ 0 ≤ c ∧ c < 0 + ((List.replicate k 36 ++ qnl (s1.2.1 + 1)).length : Int) then qnth (List.replicate k 36 ++ qnl (s1.2.1 + 1)) (c - 0) else if l = s1.1 then 0 else s1.2.2.2.1 l c
      have ll : ((List.replicate k 36 ++ qnl (s1.2.1 + 1)).length : Int) = w := by rw [List.length_append, List.length_replicate]; omega
      rw [ll]
      by_cases cl : l = s1.1
      · rw [if_pos cl, if_pos (by omega), Int.sub_zero]
        unfold qbar
        by_cases ck : c < w - 1 - qnu (s1.2.1 + 1)
        · rw [if_pos ck, qnth_l _ _ _ (by rw [List.length_replicate]; omega), qhyp_n k c (by omega)]
        · rw [if_neg ck, if_pos c2, qnth_r _ _ _ (by rw [List.length_replicate]; omega), List.length_replicate, qnl_n _ _ (by omega)]
          rw [show c - (k : Int) = c - (w - 1 - qnu (s1.2.1 + 1)) by omega]
      · rw [if_neg cl, if_neg (by omega), if_neg cl]
    · rw [← hs2]; rfl
  have hm : s.1 % (t - 1) = t - 2 ↔ l + 1 = t - 1 := by
    by_cases c : l = t - 1
    · have := (qdmod (a := P) (d := t - 1) (l := 0) (by omega)).1
      have e1 : (P - 1) * (t - 1) = P * (t - 1) - (t - 1) := by rw [Int.sub_mul, Int.one_mul]
      rw [show s.1 = P * (t - 1) + 0 by omega, this]
      omega
    · rw [b4, (qdmod (a := P - 1) (d := t - 1) (l := l) (by omega)).1]
      omega
  have p9 := a1.2.1.1
  have p16 := a1.2.1.2.1
  have p4 := a1.1.2.1
  have z1 : z32 (l + 1) = l + 1 := q32 (by omega)
  have z2 : z32 (t - 1) = t - 1 := q32 (by omega)
  by_cases c : l + 1 = t - 1
  · rw [if_pos (hm.mpr c)]
    obtain ⟨m1, P1, l1, r1, c1, f1⟩ := s_beginLine e S m x w t P l A B s (by omega) hK hL hk0 hs0 hz (by omega) (by omega)
    obtain ⟨m', P', l', r, z⟩ := fin m1 (qZb s) P1 l1 (A + 1) c1 (qZk_b hz (by omega)) (by omega) rfl f1
    refine ⟨m', P', l', ?_, z⟩
    simp (config := { maxSteps := 2000000 }) (disch := first | omega | (simp only [kx, qb_in, qkW, qmW, qnW, true_and, and_true, or_self, true_or, or_true, and_self]; done) | (simp only [kx, qb_in, qkW, qmW, qnW, true_and, and_true, or_self, true_or, or_true, and_self]; omega)) only [zD_11, b11_0, b11_7, b11_22, b11_40, b11_51, b11_60, b11_66, b11_72, b11_80, qcall_l, qcall_r, qretn_l, qJ_s, qJ_n, qV0, qEx, ↓qif0, ↓zchk_pos, ↓reduceIte, qput, qWW, qmW, qkW, qnW, kx, p9, p16, p4, z1, z2, if_pos (show 0 < P by omega), if_pos c, r1, r]
  · rw [if_neg fun q => c (hm.mp q)]
    obtain ⟨m', P', l', r, z⟩ := fin m s P l A hs0 hz (by omega) rfl (qfx_r _ _)
    refine ⟨m', P', l', ?_, z⟩
    simp (config := { maxSteps := 2000000 }) (disch := first | omega | (simp only [kx, qb_in, qkW, qmW, qnW, true_and, and_true, or_self, true_or, or_true, and_self]; done) | (simp only [kx, qb_in, qkW, qmW, qnW, true_and, and_true, or_self, true_or, or_true, and_self]; omega)) only [zD_11, b11_0, b11_7, b11_22, b11_40, b11_51, b11_60, b11_66, b11_72, b11_80, qcall_l, qcall_r, qretn_l, qJ_s, qJ_n, qV0, qEx, ↓qif0, ↓zchk_pos, ↓reduceIte, qput, qWW, qmW, qkW, qnW, kx, p9, p16, p4, z1, z2, if_pos (show 0 < P by omega), if_neg c, r]
theorem s_tellPlace (d : Nat) (S : zS) (m : Int → Int → Int) (x y k : Int) (h : 1 ≤ d) (kx : zk S x = (20, 0)) (ky : zk S y = (21, 0)) (hP : 0 ≤ m x 9 ∧ m x 9 < 100000) :
    zD d 13 [vr x, vr y, vi k] (qW S m) = some (.inl none, qW S (qu (qu (qu (qu (qu m y 2 (m x 9 - 1)) y 3 (m x 16)) y 4 (m x 17)) y 5 k) y 6 (m x 11))) := by
  obtain ⟨e, rfl, -⟩ := qd h
  have hxy : x ≠ y := fun q => by rw [q, ky] at kx; exact absurd kx (by decide)
  have z1 : z32 (m x 9 - 1) = m x 9 - 1 := q32 (by omega)
  have n1 : ∀ (M : Int → Int → Int) (j v : Int), qu M y j v x = M x := fun M j v => qu_o _ _ _ _ _ hxy
  simp (config := { maxSteps := 2000000 }) (disch := first | omega | (simp only [kx, ky, qb_in, qkW, qmW, qnW, true_and, and_true, or_self, true_or, or_true, and_self]; done) | (simp only [kx, ky, qb_in, qkW, qmW, qnW, true_and, and_true, or_self, true_or, or_true, and_self]; omega)) only [zD_13, b13_0, b13_18, b13_36, qcall_l, qcall_r, qretn_l, qJ_s, qJ_n, qV0, qEx, ↓qif0, ↓zchk_pos, ↓reduceIte, qput, qWW, qmW, qkW, qnW, kx, ky, z1, n1]
theorem qdrop_1 (L : List Int) (i f : Nat) (h : i < L.length) : (L.drop i).take (f + 1) = [qnth L i] ++ (L.drop (i + 1)).take f := by
  have d1 : L.drop i = L[i] :: L.drop (i + 1) := List.drop_eq_getElem_cons h
  have d2 : qnth L i = L[i] := by
    unfold qnth
    rw [List.getD_eq_getElem?_getD, Int.toNat_natCast, List.getElem?_eq_getElem h]
    rfl
  rw [d1, d2, List.take_succ_cons]
  rfl
/-- the rest of a word's cells, none of them at a split -/
theorem s_putCells (e : Nat) (S : zS) (x w t P l A B wr b c sp : Int) (L E : List Int) (mk con : Int) (he : 2 ≤ e) (hk : qBk S x w t) (hA : A ≤ 240) (hkw : qWk S wr b c) (hne : wr ≠ x ∧ wr ≠ x + 2 ∧ b ≠ x ∧ b ≠ x + 2 ∧ c ≠ x ∧ c ≠ x + 2) (hv : ∀ i, 0 ≤ i → i < (L.length : Int) → 0 ≤ qnth L i ∧ qnth L i < 64) (hl : L.length ≤ 16) :
    ∀ (f i : Nat) (stop : Nat) (m : Int → Int → Int) (s : qZs) (x2 : zV), i + f = stop → stop ≤ L.length → (∀ j : Int, (i : Int) ≤ j → j < stop → j ≠ sp) → qCB m x w t s P l → qZk w s A B → 0 < s.1 → s.2.2.1 + f ≤ w → qWp m wr b c L mk con E →
      ∃ m', zF_14 e 9 [vr x, vr wr, x2, vi sp, vi (i : Int)] [] (qW S m) = zF_14 e 9 [vr x, vr wr, vu, vi sp, vi (stop : Int)] [] (qW S m') ∧ qCB m' x w t (qZu s ((L.drop i).take f)) P l ∧ qfx x m m' := by
  have kx := hk.1.1
  have hkw0 := hkw
  obtain ⟨k1, k2, -⟩ := hkw
  intro f
  induction f with
  | zero =>
    intro i stop m s x2 hi hst hsp hc hz hn hp hw
    obtain rfl : i = stop := by omega
    refine ⟨m, ?_, by rw [List.take_zero, qZu_0]; exact hc, qfx_r _ _⟩
    obtain ⟨w0, w4, w1, w2, w3, w5, wL, wE⟩ := hw
    rw [b14_9, b14_9]
  | succ f ih =>
    intro i stop m s x2 hi hst hsp hc hz hn hp hw
    have hw0 := hw
    obtain ⟨w0, w4, w1, w2, w3, w5, wL, wE⟩ := hw
    have hi2 : i < L.length := by omega
    have hlt : (i : Int) < (L.length : Int) := Int.ofNat_lt.mpr hi2
    have hnsp : ¬ (i : Int) = sp := hsp (i : Int) (by omega) (by omega)
    have vi_ := hv (i : Int) (by omega) (by omega)
    have g1 := qA_n wL (i : Int) (by omega) (by omega)
    obtain ⟨m1, r1, c1, f1⟩ := s_putCB e S m x w t P l (qnth L i) A B s he hk hc hz hA hn (by omega) vi_
    have e1 : m1 wr = m wr := f1.1 wr hne.1 hne.2.1
    have e2 : m1 b = m b := f1.1 b hne.2.2.1 hne.2.2.2.1
    have e3 : m1 c = m c := f1.1 c hne.2.2.2.2.1 hne.2.2.2.2.2
    clear hne
    have hz1 : qZk w (qZu s [qnth L i]) A B := qZk_u hz (fun j j1 j2 => by
      have j2 : j < ((1 : Nat) : Int) := j2
      obtain rfl : j = 0 := by omega
      exact vi_) (by show s.2.2.1 + ((1 : Nat) : Int) ≤ w; omega)
    obtain ⟨m2, r2, c2, f2⟩ := ih (i + 1) stop m1 (qZu s [qnth L i]) vu (by omega) hst (fun j j1 j2 => hsp j (by omega) j2) c1 hz1 hn (by show s.2.2.1 + ((1 : Nat) : Int) + f ≤ w; omega) (qWp_o hw0 e1 e2 e3)
    have z1 : z32 ((i : Int) + 1) = ((i + 1 : Nat) : Int) := by rw [q32 (by omega)]; omega
    have dt := qdrop_1 L i f hi2
    refine ⟨m2, ?_, by rw [dt, ← qZu_u]; exact c2, qfx_t f1 f2⟩
    rw [← r2, b14_9]
    have cn := s_wrCell e (qW S m) wr b c mk con (i : Int) L E (by omega) hkw0 hw0 hl
    rw [if_pos ⟨Int.natCast_nonneg i, hlt⟩] at cn
    clear hz1 c2 dt vi_ g1
    simp (config := { maxSteps := 2000000 }) (disch := first | omega | (simp only [k1, kx, qb_in, qkW, qmW, qnW, true_and, and_true, or_self, true_or, or_true, and_self]; done) | (simp only [k1, kx, qb_in, qkW, qmW, qnW, true_and, and_true, or_self, true_or, or_true, and_self]; omega)) only [b14_0, b14_5, b14_18, b14_24, b14_30, b14_34, b14_41, b14_44, b14_50, qcall_l, qcall_r, qretn_l, qJ_s, qJ_n, qV0, qEx, ↓qif0, ↓zchk_pos, ↓reduceIte, qput, qWW, qmW, qkW, qnW, k1, kx, w1, if_pos hlt, if_neg hnsp, cn, r1, z1]
theorem s_putWord (d : Nat) (S : zS) (m : Int → Int → Int) (x w t P l A B wr b c k : Int) (s : qZs) (L E : List Int) (mk con : Int) (h : 5 ≤ d) (hK : qK S) (hL : qLt m) (hk : qBk S x w t) (hA : A + (if qlp L E k < L.length then 1 else 0) ≤ 240) (hB : B < 850) (hkw : qWk S wr b c) (hne : wr ≠ x ∧ wr ≠ x + 2 ∧ b ≠ x ∧ b ≠ x + 2 ∧ c ≠ x ∧ c ≠ x + 2) (hv : ∀ i, 0 ≤ i → i < (L.length : Int) → 0 ≤ qnth L i ∧ qnth L i < 64) (hl : L.length ≤ 16) (hE : E.length ≤ 4)
    (hc : qCB m x w t s P l) (hz : qZk w s A B) (hn : 0 < s.1) (hj : 0 ≤ qlp L E k ∧ qlp L E k ≤ L.length) (hp : s.2.2.1 + (if qlp L E k < L.length then qlp L E k + 1 else L.length) ≤ w) (hw : qWp m wr b c L mk con E) :
    ∃ m' P' l', zD d 14 [vr x, vr wr, vi k] (qW S m) = some (.inl none, qW S m') ∧ qCB m' x w t (qZ1 s L (qlp L E k)) P' l' ∧ qfx x m m' := by
  obtain ⟨e, rfl, he⟩ := qd h
  have kx := hk.1.1
  have hx := hk.2.2.2
  have hkw0 := hkw
  obtain ⟨k1, k2, -⟩ := hkw
  have lo := s_lengthOfParts e (qW S m) wr b c L E mk con k (by omega) hkw0 hw hE
  obtain ⟨sp, hsp⟩ : ∃ sp, qlp L E k = sp := ⟨_, rfl⟩
  rw [hsp] at lo hj hp hA ⊢
  have keep : ∀ m1, qfx x m m1 → qWp m1 wr b c L mk con E := fun m1 g => qWp_o hw (g.1 wr hne.1 hne.2.1) (g.1 b hne.2.2.1 hne.2.2.2.1) (g.1 c hne.2.2.2.2.1 hne.2.2.2.2.2)
  -- at the word's end
  have fin : ∀ (m1 : Int → Int → Int) (x2 : zV), qWp m1 wr b c L mk con E → zF_14 e 9 [vr x, vr wr, x2, vi sp, vi (L.length : Nat)] [] (qW S m1) = some (.inl none, qW S m1) := fun m1 x2 g => by
    have g1 := g.2.2.1
    rw [b14_9]
    simp (config := { maxSteps := 2000000 }) (disch := first | omega | (simp only [k1, kx, qb_in, qkW, qmW, qnW, true_and, and_true, or_self, true_or, or_true, and_self]; done) | (simp only [k1, kx, qb_in, qkW, qmW, qnW, true_and, and_true, or_self, true_or, or_true, and_self]; omega)) only [b14_0, b14_5, b14_18, b14_24, b14_30, b14_34, b14_41, b14_44, b14_50, qcall_l, qcall_r, qretn_l, qJ_s, qJ_n, qV0, qEx, ↓qif0, ↓zchk_pos, ↓reduceIte, qput, qWW, qmW, qkW, qnW, k1, kx, g1, if_neg (show ¬ ((L.length : Nat) : Int) < (L.length : Nat) by omega)]
  unfold qZ1
  by_cases c1 : sp < L.length
  · rw [if_pos c1] at hp hA ⊢
    obtain ⟨m1, r1, d1, f1⟩ := s_putCells e S x w t P l A B wr b c sp L E mk con (by omega) hk (by omega) hkw0 hne hv hl sp.toNat 0 sp.toNat m s vu (by omega) (by omega) (fun j _ j2 => by omega) hc hz hn (by omega) hw
    have r1 : zF_14 e 9 [vr x, vr wr, vu, vi sp, vi 0] [] (qW S m) = zF_14 e 9 [vr x, vr wr, vu, vi sp, vi (sp.toNat : Nat)] [] (qW S m1) := r1
    rw [show ((sp.toNat : Nat) : Int) = sp by omega] at r1
    rw [List.drop_zero] at d1
    have tl : ((L.take sp.toNat).length : Int) = sp := by rw [List.length_take]; omega
    have hz1 : qZk w (qZu s (L.take sp.toNat)) A B := qZk_u hz (fun i i1 i2 => by
      rw [qnth_take _ _ _ (by omega)]
      exact hv i i1 (by omega)) (by omega)
    obtain ⟨m2, r2, d2, f2⟩ := s_putCB e S m1 x w t P l 36 A B _ (by omega) hk d1 hz1 (by omega) hn (by show s.2.2.1 + ((L.take sp.toNat).length : Int) < w; omega) (by decide)
    rw [qZu_u] at d2
    have l2 := qtk_l hj
    have hz2 : qZk w (qZu s (L.take sp.toNat ++ [36])) A B := qZk_u hz (fun i i1 i2 => by
      rw [qtk_n hj i (by omega)]
      split
      · omega
      · exact hv i i1 (by omega)) (by omega)
    have f12 := qfx_t f1 f2
    obtain ⟨m3, P3, l3, r3, d3, f3⟩ := s_beginLine e S m2 x w t P l A B _ (by omega) hK (qfx_L f12 hx hL) hk d2 hz2 (by omega) (by omega)
    have hz3 := qZk_b hz2 (show 0 ≤ w by have := hk.2.1; omega)
    have f13 := qfx_t f12 f3
    -- the first cell of the other part
    have dl := qdp_l hj
    have w3' := keep m3 f13
    have vsp := hv sp hj.1 c1
    have n3 : 0 < (qZb (qZu s (L.take sp.toNat ++ [36]))).1 := by show 0 < s.1 + 1; omega
    obtain ⟨m4, r4, d4, f4⟩ := s_putCB e S m3 x w t P3 l3 (qnth L sp) (A + 1) B _ (by omega) hk d3 hz3 (by omega) n3 (by show (0 : Int) < w; have := hk.2.1; omega) vsp
    have f14 := qfx_t f13 f4
    have hz4 : qZk w (qZu (qZb (qZu s (L.take sp.toNat ++ [36]))) [qnth L sp]) (A + 1) B := qZk_u hz3 (fun i i1 i2 => by
      have i2 : i < ((1 : Nat) : Int) := i2
      obtain rfl : i = 0 := by omega
      exact vsp) (by show 0 + ((1 : Nat) : Int) ≤ w; have := hk.2.1; omega)
    obtain ⟨m5, r5, d5, f5⟩ := s_putCells e S x w t P3 l3 (A + 1) B wr b c sp L E mk con (by omega) hk (by omega) hkw0 hne hv hl (L.length - (sp.toNat + 1)) (sp.toNat + 1) L.length m4 _ vu (by omega) (Nat.le_refl _) (fun j j1 j2 => by omega) d4 hz4 n3 (by show 0 + ((1 : Nat) : Int) + _ ≤ w; have := hk.2.1; omega) (keep m4 f14)
    have dt : [qnth L sp] ++ (L.drop (sp.toNat + 1)).take (L.length - (sp.toNat + 1)) = L.drop sp.toNat := by
      have hlt : sp.toNat < L.length := by omega
      have d1 := qdrop_1 L sp.toNat (L.length - (sp.toNat + 1)) hlt
      rw [show ((sp.toNat : Nat) : Int) = sp by omega] at d1
      rw [← d1, List.take_of_length_le (by rw [List.length_drop]; omega)]
    rw [qZu_u, dt] at d5
    refine ⟨m5, P3, l3, ?_, d5, qfx_t f14 f5⟩
    have z0 : z32 (sp + 1) = ((sp.toNat + 1 : Nat) : Int) := by rw [q32 (by omega)]; omega
    have v1 := (keep m1 f1).2.2.1
    have cn := s_wrCell e (qW S m3) wr b c mk con sp L E (by omega) hkw0 w3' hl
    rw [if_pos (show 0 ≤ sp ∧ sp < (L.length : Int) by omega)] at cn
    have mid : zF_14 e 9 [vr x, vr wr, vu, vi sp, vi sp] [] (qW S m1) = some (.inl none, qW S m5) := by
      rw [b14_9]
      simp (config := { maxSteps := 2000000 }) (disch := first | omega | (simp only [k1, kx, qb_in, qkW, qmW, qnW, true_and, and_true, or_self, true_or, or_true, and_self]; done) | (simp only [k1, kx, qb_in, qkW, qmW, qnW, true_and, and_true, or_self, true_or, or_true, and_self]; omega)) only [b14_0, b14_5, b14_18, b14_24, b14_30, b14_34, b14_41, b14_44, b14_50, qcall_l, qcall_r, qretn_l, qJ_s, qJ_n, qV0, qEx, ↓qif0, ↓zchk_pos, ↓reduceIte, qput, qWW, qmW, qkW, qnW, k1, kx, v1, if_pos (show sp < (L.length : Nat) by omega), r2, r3, cn, r4, z0, r5]
      exact fin m5 vu (keep m5 (qfx_t f14 f5))
    simp (config := { maxSteps := 2000000 }) (disch := first | omega | (simp only [k1, qb_in, qkW, qmW, qnW, true_and, and_true, or_self, true_or, or_true, and_self]; done) | (simp only [k1, qb_in, qkW, qmW, qnW, true_and, and_true, or_self, true_or, or_true, and_self]; omega)) only [zD_14, b14_0, b14_5, b14_18, b14_24, b14_30, b14_34, b14_41, b14_44, b14_50, qcall_l, qcall_r, qretn_l, qJ_s, qJ_n, qV0, qEx, ↓qif0, ↓zchk_pos, ↓reduceIte, qput, qWW, qmW, qkW, qnW, k1, lo, r1, mid]
  · rw [if_neg c1] at hp hA ⊢
    obtain ⟨m1, r1, d1, f1⟩ := s_putCells e S x w t P l A B wr b c sp L E mk con (by omega) hk (by omega) hkw0 hne hv hl L.length 0 L.length m s vu (by omega) (Nat.le_refl _) (fun j _ j2 => by omega) hc hz hn (by omega) hw
    have r1 : zF_14 e 9 [vr x, vr wr, vu, vi sp, vi 0] [] (qW S m) = zF_14 e 9 [vr x, vr wr, vu, vi sp, vi (L.length : Nat)] [] (qW S m1) := r1
    rw [List.drop_zero, List.take_length] at d1
    refine ⟨m1, P, l, ?_, d1, f1⟩
    have g := fin m1 vu (keep m1 f1)
    simp (config := { maxSteps := 2000000 }) (disch := first | omega | (simp only [k1, qb_in, qkW, qmW, qnW, true_and, and_true, or_self, true_or, or_true, and_self]; done) | (simp only [k1, qb_in, qkW, qmW, qnW, true_and, and_true, or_self, true_or, or_true, and_self]; omega)) only [zD_14, b14_0, b14_5, b14_18, b14_24, b14_30, b14_34, b14_41, b14_44, b14_50, qcall_l, qcall_r, qretn_l, qJ_s, qJ_n, qV0, qEx, ↓qif0, ↓zchk_pos, ↓reduceIte, qput, qWW, qmW, qkW, qnW, k1, lo, r1, g]
