/-! What both know: the tape, codes, divided words; what questions may write. -/
/-- a code and its parts -/
def qCb (S : zS) (a : Int) : Prop := zk S a = (22, 0) ∧ zk S (a + 1) = (12, 24) ∧ zk S (a + 2) = (1, 17) ∧ zk S (a + 3) = (28, 0) ∧ zk S (a + 4) = (0, 10) ∧ zm S a 0 = a + 1 ∧ zm S a 2 = a + 2 ∧ zm S a 3 = a + 3 ∧ zm S (a + 3) 0 = a + 4 ∧ 103 ≤ a ∧ a + 5 ≤ zn S
/-- the reference's table -/
def qTm (m : Int → Int → Int) (c a k : Int) : Int := if a = 0 then m 41 (24 * c + k) else if a = 1 then m 44 (24 * c + k) else if a = 2 then m 45 (24 * c + k) else if a = 3 then m 42 (24 * c + k) else if a = 4 then m 43 (24 * c + k) else m 40 (6 * (24 * c + k) + (a - 5)) - 97
def qRT (S : zS) : Prop := zm S 4 1 = zm S 37 2 ∧ (0 ≤ zm S 37 2 ∧ zm S 37 2 ≤ 60) ∧ (∀ i, i < zm S 37 2 → zm S 5 i = zm S 38 i) ∧ ∀ i, 0 ≤ i → i < zm S 37 2 → 0 ≤ zm S 38 i ∧ zm S 38 i < 65536
def qRC (S : zS) : Prop := zm S 3 2 = zm S 37 4 ∧ (0 ≤ zm S 37 4 ∧ zm S 37 4 ≤ 3) ∧ (∀ c, 0 ≤ c → c < zm S 37 4 → qCb S (zm S 6 c) ∧ qCo S (zm S 6 c) (zm S 39 c) (qTm (zm S) c) ∧ qTok (qTm (zm S) c) (zm S 39 c) ∧ ∀ k, 0 ≤ k → k < zm S 39 c → 103 ≤ zm S (zm S 6 c + 1) k ∧ zm S (zm S 6 c + 1) k + 2 ≤ zn S ∧ zm S (zm S (zm S 6 c + 1) k) 0 = zm S (zm S 6 c + 1) k + 1) ∧ (∀ i c, 0 ≤ i → i < c → c < zm S 37 4 → zm S 6 i ≠ zm S 6 c) ∧ ∀ c, zm S 37 4 ≤ c → c < 3 → zm S 39 c = 0
theorem qRC_r {S : zS} (h : qRC S) {c : Int} (h0 : 0 ≤ c) (h1 : c < zm S 37 4) : qRc (zm S) c (zm S 39 c) (qTm (zm S) c) := by
  obtain ⟨r1, r2, r3, -⟩ := h
  have hN := (r3 c h0 h1).2.1.2.2.2.1
  refine ⟨by omega, rfl, hN, fun k k1 k2 => ⟨rfl, rfl, rfl, rfl, rfl, fun j j1 j2 => ?_⟩⟩
  unfold qTm
  rw [if_neg (by omega), if_neg (by omega), if_neg (by omega), if_neg (by omega), if_neg (by omega), show 5 + j - 5 = j by omega]
  omega
def qscf (x j : Int) : Prop := x = 102 ∨ (x = 18 ∧ j ≠ 0) ∨ x = 19 ∨ (x = 20 ∧ j ≠ 0 ∧ j ≠ 4) ∨ x = 21 ∨ x = 22 ∨ ((x = 23 ∨ x = 30) ∧ (j = 1 ∨ j = 2 ∨ j = 3 ∨ j = 8 ∨ j = 9 ∨ j = 11)) ∨ (24 ≤ x ∧ x ≤ 29) ∨ (31 ≤ x ∧ x ≤ 36) ∨ (64 ≤ x ∧ x ≤ 70) ∨ (95 ≤ x ∧ x ≤ 101) ∨ (x = 37 ∧ (j = 0 ∨ (32 ≤ j ∧ j ≤ 34) ∨ (36 ≤ j ∧ j ≤ 38) ∨ j = 40 ∨ j = 42 ∨ j = 43 ∨ j = 45 ∨ j = 46 ∨ j = 83 ∨ j = 88 ∨ j = 90 ∨ j = 92 ∨ j = 94))
def qscr (S : zS) (x j : Int) : Prop := qscf x j ∨ ∃ c, 0 ≤ c ∧ c < zm S 37 4 ∧ (x = zm S 6 c + 2 ∨ (x = zm S 6 c + 3 ∧ j ≠ 0) ∨ x = zm S 6 c + 4)
def qFq (S : zS) (m' : Int → Int → Int) : Prop := ∀ x j, ¬ qscr S x j → m' x j = zm S x j
theorem qns {S : zS} (h : qRC S) {x j : Int} (hx : x ≤ 102) (hf : ¬ qscf x j) : ¬ qscr S x j := fun q => by
  rcases q with q | ⟨c, c1, c2, q⟩
  · exact hf q
  · have := (h.2.2.1 c c1 c2).1.2.2.2.2.2.2.2.2.2.1
    omega
theorem qnd {S : zS} (h : qRC S) {x j : Int} (hx : 103 ≤ x) (hf : ∀ c, 0 ≤ c → c < zm S 37 4 → x ≠ zm S 6 c + 2 ∧ x ≠ zm S 6 c + 3 ∧ x ≠ zm S 6 c + 4) : ¬ qscr S x j := fun q => by
  rcases q with q | ⟨c, c1, c2, q⟩
  · unfold qscf at q
    omega
  · have := hf c c1 c2
    omega
theorem qFq_r (S : zS) : qFq S (zm S) := fun _ _ _ => rfl
/-- what the law itself writes between the two answers -/
def qo (S : zS) (o : Int) : zS := qW S (qu (zm S) 102 0 o)
theorem qo_s (S : zS) : qo S (zm S 102 0) = S := by
  have : qu (zm S) 102 0 (zm S 102 0) = zm S := by
    funext x j
    show (if x = 102 then (if j = 0 then zm S 102 0 else zm S x j) else zm S x j) = _
    split
    · next h =>
      split
      · next h2 => rw [h, h2]
      · rfl
    · rfl
  unfold qo
  rw [this]
  rfl
theorem qo_ex (S1 : zS) (o : Int) : ∃ S9, qo S1 o = S9 ∧ zn S9 = zn S1 ∧ zc S9 = zc S1 ∧ zw S9 = zw S1 ∧ zk S9 = zk S1 ∧ (∀ x, x ≠ 102 → zm S9 x = zm S1 x) ∧ zm S9 102 0 = o := ⟨qo S1 o, rfl, rfl, rfl, rfl, rfl, fun x hx => qu_o _ _ _ _ _ hx, qu_s (zm S1) 102 0 o⟩
theorem qFq_o {S : zS} {m : Int → Int → Int} (h : qFq S m) (o : Int) : qFq S (qu m 102 0 o) := fun x j q => by
  rw [qu_o _ _ _ _ _ fun z => q (Or.inl (Or.inl z))]
  exact h x j q
theorem qFq_x {S : zS} {m' : Int → Int → Int} (h : qRC S) (hf : qFq S m') {x : Int} (hx : x ≤ 102) (hs : ∀ j, ¬ qscf x j) : m' x = zm S x := funext fun j => hf x j (qns h hx (hs j))
theorem qFq_y {S : zS} {m' : Int → Int → Int} (h : qRC S) (hf : qFq S m') {x : Int} (hx : 103 ≤ x) (hs : ∀ c, 0 ≤ c → c < zm S 37 4 → x ≠ zm S 6 c + 2 ∧ x ≠ zm S 6 c + 3 ∧ x ≠ zm S 6 c + 4) : m' x = zm S x := funext fun j => hf x j (qnd h hx hs)
theorem qFq_37 {S : zS} {m' : Int → Int → Int} (h : qRC S) (hf : qFq S m') (j : Int) (hs : ¬ qscf 37 j) : m' 37 j = zm S 37 j := hf 37 j (qns h (by decide) hs)
theorem qFq_P {S : zS} {m' : Int → Int → Int} (h : qRC S) (hP : qP (zm S)) (hf : qFq S m') : qP m' := hP.same fun q hq => by
  have hb : ∀ q ∈ qPt, q.1 ≤ 102 ∧ ¬ (q.1 = 102 ∨ (q.1 = 18 ∧ q.2.1 ≠ 0) ∨ q.1 = 19 ∨ (q.1 = 20 ∧ q.2.1 ≠ 0 ∧ q.2.1 ≠ 4) ∨ q.1 = 21 ∨ q.1 = 22 ∨ ((q.1 = 23 ∨ q.1 = 30) ∧ (q.2.1 = 1 ∨ q.2.1 = 2 ∨ q.2.1 = 3 ∨ q.2.1 = 8 ∨ q.2.1 = 9 ∨ q.2.1 = 11)) ∨ (24 ≤ q.1 ∧ q.1 ≤ 29) ∨ (31 ≤ q.1 ∧ q.1 ≤ 36) ∨ (64 ≤ q.1 ∧ q.1 ≤ 70) ∨ (95 ≤ q.1 ∧ q.1 ≤ 101) ∨ (q.1 = 37 ∧ (q.2.1 = 0 ∨ (32 ≤ q.2.1 ∧ q.2.1 ≤ 34) ∨ (36 ≤ q.2.1 ∧ q.2.1 ≤ 38) ∨ q.2.1 = 40 ∨ q.2.1 = 42 ∨ q.2.1 = 43 ∨ q.2.1 = 45 ∨ q.2.1 = 46 ∨ q.2.1 = 83 ∨ q.2.1 = 88 ∨ q.2.1 = 90 ∨ q.2.1 = 92 ∨ q.2.1 = 94))) := by decide
  obtain ⟨b1, b2⟩ := hb q hq
  exact hf q.1 q.2.1 (qns h b1 b2)
theorem qFq_L {S : zS} {m' : Int → Int → Int} (h : qRC S) (hL : qLt (zm S)) (hf : qFq S m') : qLt m' := fun q hq => by
  rw [hf 2 q.1 (qns h (by decide) (by unfold qscf; omega))]
  exact hL q hq
theorem qRT_q {S : zS} {m' : Int → Int → Int} (h : qRC S) (hT : qRT S) (hf : qFq S m') : qRT (qW S m') := by
  obtain ⟨t1, t2, t3, t4⟩ := hT
  have e5 : m' 5 = zm S 5 := qFq_x h hf (by decide) fun j => by unfold qscf; omega
  have e38 : m' 38 = zm S 38 := qFq_x h hf (by decide) fun j => by unfold qscf; omega
  have e2 : m' 37 2 = zm S 37 2 := qFq_37 h hf 2 (by unfold qscf; omega)
  have e4 : m' 4 1 = zm S 4 1 := hf 4 1 (qns h (by decide) (by unfold qscf; omega))
  refine ⟨?_, ?_, ?_, fun i i1 i2 => ?_⟩
  · show m' 4 1 = m' 37 2
    rw [e4, e2, t1]
  · show 0 ≤ m' 37 2 ∧ m' 37 2 ≤ 60
    rw [e2]; exact t2
  · show ∀ i, i < m' 37 2 → m' 5 i = m' 38 i
    rw [e5, e38, e2]
    exact t3
  · show 0 ≤ m' 38 i ∧ m' 38 i < 65536
    rw [e38]
    exact t4 i i1 (by rw [← e2]; exact i2)
theorem qTm_e {m m' : Int → Int → Int} (h : ∀ x, 39 ≤ x → x ≤ 45 → m' x = m x) (c : Int) : qTm m' c = qTm m c := by
  funext a k
  unfold qTm
  rw [h 40 (by decide) (by decide), h 41 (by decide) (by decide), h 42 (by decide) (by decide), h 43 (by decide) (by decide), h 44 (by decide) (by decide), h 45 (by decide) (by decide)]
theorem qFq_tb {S : zS} {m' : Int → Int → Int} (h : qRC S) (hf : qFq S m') : ∀ x, 39 ≤ x → x ≤ 45 → m' x = zm S x := fun x h1 h2 => qFq_x h hf (by omega) fun j => by unfold qscf; omega
theorem qRC_q {S : zS} {m' : Int → Int → Int} (h : qRC S) (hf : qFq S m') : qRC (qW S m') := by
  have h0 := h
  obtain ⟨r1, r2, r3, r4, r5⟩ := h
  have e4 : m' 37 4 = zm S 37 4 := qFq_37 h0 hf 4 (by unfold qscf; omega)
  have e6 : m' 6 = zm S 6 := qFq_x h0 hf (by decide) fun j => by unfold qscf; omega
  have e32 : m' 3 2 = zm S 3 2 := hf 3 2 (qns h0 (by decide) (by unfold qscf; omega))
  have eT := fun c => qTm_e (qFq_tb h0 hf) c
  have e39 : m' 39 = zm S 39 := qFq_tb h0 hf 39 (by decide) (by decide)
  refine ⟨?_, ?_, ?_, ?_, ?_⟩
  · show m' 3 2 = m' 37 4
    rw [e32, e4, r1]
  · show 0 ≤ m' 37 4 ∧ m' 37 4 ≤ 3
    rw [e4]; exact r2
  · intro c c1 c2
    have c2 : c < zm S 37 4 := by rw [← e4]; exact c2
    obtain ⟨z1, z2, z3, z4⟩ := r3 c c1 c2
    have z0 := z1
    obtain ⟨k0, k1, k2, k3, k4, p0, p2, p3, p30, b1, b2⟩ := z1
    have ea : m' (zm S 6 c) = zm S (zm S 6 c) := qFq_y h0 hf (by omega) fun i i1 i2 => by
      obtain ⟨-, -, y2, y3, y4, -⟩ := (r3 i i1 i2).1
      exact ⟨qkne k0 y2 (by decide), qkne k0 y3 (by decide), qkne k0 y4 (by decide)⟩
    have ea1 : m' (zm S 6 c + 1) = zm S (zm S 6 c + 1) := qFq_y h0 hf (by omega) fun i i1 i2 => by
      obtain ⟨-, -, y2, y3, y4, -⟩ := (r3 i i1 i2).1
      exact ⟨qkne k1 y2 (by decide), qkne k1 y3 (by decide), qkne k1 y4 (by decide)⟩
    have ea3 : m' (zm S 6 c + 3) 0 = zm S (zm S 6 c + 3) 0 := hf _ _ fun q => by
      rcases q with q | ⟨i, i1, i2, q | q | q⟩
      · unfold qscf at q; omega
      · exact absurd q (qkne k3 (r3 i i1 i2).1.2.2.1 (by decide))
      · exact q.2 rfl
      · exact absurd q (qkne k3 (r3 i i1 i2).1.2.2.2.2.1 (by decide))
    show qCb (qW S m') (m' 6 c) ∧ qCo (qW S m') (m' 6 c) (m' 39 c) (qTm m' c) ∧ qTok (qTm m' c) (m' 39 c) ∧ ∀ k, 0 ≤ k → k < m' 39 c → 103 ≤ m' (m' 6 c + 1) k ∧ m' (m' 6 c + 1) k + 2 ≤ zn S ∧ m' (m' (m' 6 c + 1) k) 0 = m' (m' 6 c + 1) k + 1
    rw [e6, e39, eT]
    have hx : ∀ k, 0 ≤ k → k < zm S 39 c → m' (zm S (zm S 6 c + 1) k) = zm S (zm S (zm S 6 c + 1) k) := fun k k5 k6 => by
      have z5 := z2.2.2.2.2 k k5 k6
      rw [p0] at z5
      exact qFq_y h0 hf (z4 k k5 k6).1 fun i i1 i2 => by
        obtain ⟨-, -, y2, y3, y4, -⟩ := (r3 i i1 i2).1
        exact ⟨qkne z5.1 y2 (by decide), qkne z5.1 y3 (by decide), qkne z5.1 y4 (by decide)⟩
    refine ⟨⟨k0, k1, k2, k3, k4, by show m' _ 0 = _; rw [ea, p0], by show m' _ 2 = _; rw [ea, p2], by show m' _ 3 = _; rw [ea, p3], by show m' _ 0 = _; rw [ea3, p30], b1, b2⟩, ?_, z3, fun k k5 k6 => ?_⟩
    · obtain ⟨v1, v2, v3, v4, v5⟩ := z2
      refine ⟨v1, ?_, ?_, v4, fun k k5 k6 => ?_⟩
      · show zk S (m' _ 0) = _
        rw [ea, v2]
      · show m' _ 1 = _
        rw [ea, v3]
      · have v6 := v5 k k5 k6
        rw [p0] at v6
        obtain ⟨u1, u2, u3, u4, u5, u6, u7, u8, u9, u10⟩ := v6
        have hx1 := hx k k5 k6
        have hz := (z4 k k5 k6)
        rw [hz.2.2] at u2 u10
        have hl : m' (zm S (zm S 6 c + 1) k + 1) = zm S (zm S (zm S 6 c + 1) k + 1) := qFq_y h0 hf (by omega) fun i i1 i2 => by
          obtain ⟨-, -, y2, y3, y4, -⟩ := (r3 i i1 i2).1
          exact ⟨qkne u2 y2 (by decide), qkne u2 y3 (by decide), qkne u2 y4 (by decide)⟩
        show qCt (qW S m') (m' (m' (zm S 6 c) 0) k) (qTm (zm S) c) k
        rw [ea, p0, ea1]
        refine ⟨u1, ?_, ?_, ?_, ?_, ?_, ?_, u8, u9, fun j j1 j2 => ?_⟩
        · show zk S (m' _ 0) = _
          rw [hx1, hz.2.2, u2]
        · show m' _ 1 = _
          rw [hx1, u3]
        · show m' _ 2 = _
          rw [hx1, u4]
        · show m' _ 3 = _
          rw [hx1, u5]
        · show m' _ 4 = _
          rw [hx1, u6]
        · show m' _ 5 = _
          rw [hx1, u7]
        · show m' (m' _ 0) j = _
          rw [hx1, hz.2.2, hl, u10 j j1 j2]
    · rw [ea1, hx k k5 k6]
      exact z4 k k5 k6
  · intro i c i1 i2 c2
    show m' 6 i ≠ m' 6 c
    rw [e6]
    exact r4 i c i1 i2 (by rw [← e4]; exact c2)
  · intro c c1 c2
    show m' 39 c = 0
    rw [e39]
    exact r5 c (by rw [← e4]; exact c1) c2
theorem qRD_q {S : zS} {m' : Int → Int → Int} (h : qRC S) (hD : qRD S) (hf : qFq S m') : qRD (qW S m') := by
  obtain ⟨r1, r2, r3, r4⟩ := hD
  have e12 : m' 37 12 = zm S 37 12 := qFq_37 h hf 12 (by unfold qscf; omega)
  have e34 : m' 3 4 = zm S 3 4 := hf 3 4 (qns h (by decide) (by unfold qscf; omega))
  have e7 : m' 7 = zm S 7 := qFq_x h hf (by decide) fun j => by unfold qscf; omega
  have e46 : m' 46 = zm S 46 := qFq_x h hf (by decide) fun j => by unfold qscf; omega
  have e47 : m' 47 = zm S 47 := qFq_x h hf (by decide) fun j => by unfold qscf; omega
  have e48 : m' 48 = zm S 48 := qFq_x h hf (by decide) fun j => by unfold qscf; omega
  refine ⟨?_, ?_, ?_, ?_⟩
  · show m' 3 4 = m' 37 12
    rw [e34, e12, r1]
  · show 0 ≤ m' 37 12 ∧ m' 37 12 ≤ 12
    rw [e12]; exact r2
  · intro k k1 k2
    have k2 : k < zm S 37 12 := by rw [← e12]; exact k2
    obtain ⟨z1, z2, z3, z4, z5⟩ := r3 k k1 k2
    obtain ⟨q0, q1, q2, p0, p2, b1, b2⟩ := z1
    have ea : m' (zm S 7 k) = zm S (zm S 7 k) := qFq_y h hf (by omega) fun i i1 i2 => by
      obtain ⟨-, -, y2, y3, y4, -⟩ := (h.2.2.1 i i1 i2).1
      exact ⟨qkne q0 y2 (by decide), qkne q0 y3 (by decide), qkne q0 y4 (by decide)⟩
    have ea1 : m' (zm S 7 k + 1) = zm S (zm S 7 k + 1) := qFq_y h hf (by omega) fun i i1 i2 => by
      obtain ⟨-, -, y2, y3, y4, -⟩ := (h.2.2.1 i i1 i2).1
      exact ⟨qkne q1 y2 (by decide), qkne q1 y3 (by decide), fun q => absurd (show zm S 7 k = zm S 6 i + 3 by omega) (qkne q0 y3 (by decide))⟩
    have ea2 : m' (zm S 7 k + 2) = zm S (zm S 7 k + 2) := qFq_y h hf (by omega) fun i i1 i2 => by
      obtain ⟨-, -, y2, y3, y4, -⟩ := (h.2.2.1 i i1 i2).1
      exact ⟨qkne q2 y2 (by decide), qkne q2 y3 (by decide), qkne q2 y4 (by decide)⟩
    show qDb (qW S m') (m' 7 k) ∧ qDv (qW S m') (m' 7 k) (m' 48 k) (m' 47 k) ∧ (0 < m' 47 k ∧ m' 47 k ≤ 10) ∧ (∀ j, 0 ≤ j → j < m' 47 k → m' 46 (10 * k + j) = m' (m' 7 k + 1) j + 97) ∧ (qpl (m' 48 k) (m' 47 k) (m' 47 k).toNat).length ≤ 4
    rw [e7, e46, e47, e48, ea1]
    refine ⟨⟨q0, q1, q2, by show m' _ 0 = _; rw [ea, p0], by show m' _ 2 = _; rw [ea, p2], b1, b2⟩, ?_, z3, z4, z5⟩
    have z6 : qDo S (zm S 7 k) (zm S 48 k) (zm S 47 k) := Or.inr ⟨by omega, z2⟩
    have := qDo_g (m' := m') z6 fun _ => ⟨ea, by rw [p2]; exact ea2⟩
    rcases this with q | q
    · omega
    · exact q.2
  · intro i k i1 i2 k2
    show ¬ (m' 47 i = m' 47 k ∧ ∀ j, 0 ≤ j → j < m' 47 i → m' 46 (10 * i + j) = m' 46 (10 * k + j))
    rw [e46, e47]
    exact r4 i k i1 i2 (by rw [← e12]; exact k2)
theorem qscr_q {S : zS} {m' : Int → Int → Int} (h : qRC S) (hf : qFq S m') (x j : Int) : qscr (qW S m') x j ↔ qscr S x j := by
  have e4 : m' 37 4 = zm S 37 4 := qFq_37 h hf 4 (by unfold qscf; omega)
  have e6 : m' 6 = zm S 6 := qFq_x h hf (by decide) fun j => by unfold qscf; omega
  show (qscf x j ∨ ∃ c, 0 ≤ c ∧ c < m' 37 4 ∧ (x = m' 6 c + 2 ∨ (x = m' 6 c + 3 ∧ j ≠ 0) ∨ x = m' 6 c + 4)) ↔ _
  rw [e4, e6]
  exact Iff.rfl
theorem qFq_t {S : zS} {m m' : Int → Int → Int} (h : qRC S) (hf : qFq S m) (hg : qFq (qW S m) m') : qFq S m' := fun x j q => (hg x j fun z => q ((qscr_q h hf x j).mp z)).trans (hf x j q)
