/-! Where a word's cells lie in a book, for both. -/
def qspz (m : Int → Int → Int) (y : Int) : Int := if m y 5 < 1 then 0 else if m y 5 < m (y + 3) 5 then m (y + 5) (m y 5 - 1) else m (y + 3) 1
theorem qspz_e {m : Int → Int → Int} {y mk con : Int} {L E : List Int} (h : qWp m (y + 3) (y + 4) (y + 5) L mk con E) : qlp L E (m y 5) = qspz m y := by
  obtain ⟨-, -, a3, -, -, a6, -, a8⟩ := h
  unfold qlp qspz
  rw [a3, a6]
  by_cases c1 : m y 5 < 1
  · rw [if_pos c1, if_pos c1]
  · rw [if_neg c1, if_neg c1]
    by_cases c2 : m y 5 < (E.length : Int)
    · rw [if_pos c2, if_pos c2, qA_n a8 (m y 5 - 1) (by omega) (by omega)]
    · rw [if_neg c2, if_neg c2]
/-- page, line and place of one cell of a word -/
def qtp1 (m : Int → Int → Int) (t y i : Int) : Int := if i < qspz m y then m y 2 else if m y 3 + 1 < t then m y 2 else m y 2 + 1
def qtp2 (m : Int → Int → Int) (t y i : Int) : Int := if i < qspz m y then m y 3 else if m y 3 + 1 < t then m y 3 + 1 else 1
def qtp3 (m : Int → Int → Int) (y i : Int) : Int := if i < qspz m y then m y 4 + i else i - qspz m y
theorem qtp_a {m : Int → Int → Int} {t y i : Int} (h : i < qspz m y) : qtp1 m t y i = m y 2 ∧ qtp2 m t y i = m y 3 ∧ qtp3 m y i = m y 4 + i := ⟨if_pos h, if_pos h, if_pos h⟩
theorem qtp_b {m : Int → Int → Int} {t y i : Int} (h : ¬ i < qspz m y) (h2 : m y 3 + 1 < t) : qtp1 m t y i = m y 2 ∧ qtp2 m t y i = m y 3 + 1 ∧ qtp3 m y i = i - qspz m y := by
  unfold qtp1 qtp2 qtp3
  rw [if_neg h, if_neg h, if_neg h, if_pos h2, if_pos h2]
  exact ⟨rfl, rfl, rfl⟩
theorem qtp_c {m : Int → Int → Int} {t y i : Int} (h : ¬ i < qspz m y) (h2 : ¬ m y 3 + 1 < t) : qtp1 m t y i = m y 2 + 1 ∧ qtp2 m t y i = 1 ∧ qtp3 m y i = i - qspz m y := by
  unfold qtp1 qtp2 qtp3
  rw [if_neg h, if_neg h, if_neg h, if_neg h2, if_neg h2]
  exact ⟨rfl, rfl, rfl⟩
theorem qln_1 {T1 a l A k : Int} (hT : 2 ≤ T1) (hl : 1 ≤ l ∧ l ≤ T1) (hk : 1 ≤ k) (h : a * T1 + k ≤ A * T1 + l) : a ≤ A := by
  by_cases c : a ≤ A
  · exact c
  · have := qixm (w := T1) (a := A) (b := a) (by omega) (by omega)
    omega
theorem qwL_0 {T : Int → Int → Int} {N g P dg st bg mk : Int} {W : List Int} (hN : 0 ≤ N) (hT : qTok T N) (hW : 0 < W.length ∧ W.length ≤ 10) : 0 < (qwL T N g W P dg st bg mk).length := by
  have h : 0 < (qwC T N g W P dg).length := by
    unfold qwC
    split
    · rw [qdt_l]; exact hW.1
    · split
      · unfold qC1
        exact (qct_n (T := T) (g := g) (P := P) (n := W.length) (ws := qnth W) hN hT (by omega) W.length 0 (Int.le_refl _)).2.1 (by omega) (by omega)
      · rw [qlt_l]; exact hW.1
  unfold qwL
  rw [List.length_append, List.length_append, List.length_map]
  omega
theorem qWw_0 {S : zS} {b j y : Int} {L E : List Int} {ah U M : Int} (h : qWw S b j y L E ah U M) : 0 < L.length := by
  obtain ⟨W, dg, st, bg, mk, c, N, g, T, p, ⟨⟨w1, w2, w3⟩, ⟨v1, v2, rc, tk⟩, -, hL, -⟩, -⟩ := h
  rw [hL]
  exact qwL_0 rc.2.2.1.1 tk w2.1
theorem q_wordIn {S : zS} {b x w t P l y : Int} {J j : Nat} {fL fE : Nat → List Int} {fA fU fM : Nat → Int} (h : qB0 S b x w t J fL fE fA fU fM P l) (hw : 18 ≤ w ∧ w ≤ 40) (ht : 3 ≤ t ∧ t ≤ 25) (hj : j < J) (hy : zm S (x + 1) j = y) :
    (0 ≤ zm S y 2 ∧ 1 ≤ zm S y 3 ∧ zm S y 3 ≤ t - 1 ∧ 0 ≤ zm S y 4 ∧ zm S y 4 ≤ w ∧ zm S y 2 < P) ∧ (0 ≤ qspz (zm S) y ∧ qspz (zm S) y ≤ (fL j).length) ∧ ∀ i, 0 ≤ i → i < ((fL j).length : Int) → (0 ≤ qtp1 (zm S) t y i ∧ qtp1 (zm S) t y i < P) ∧ (1 ≤ qtp2 (zm S) t y i ∧ qtp2 (zm S) t y i < t) ∧ (0 ≤ qtp3 (zm S) y i ∧ qtp3 (zm S) y i < w) ∧ zm S (x + 2) ((qtp1 (zm S) t y i * t + qtp2 (zm S) t y i) * w + qtp3 (zm S) y i) = qnth (fL j) i ∧ (if i < qspz (zm S) y then zm S y 2 * (t - 1) + (zm S y 3 - 1) else zm S y 2 * (t - 1) + (zm S y 3 - 1) + 1) = qtp1 (zm S) t y i * (t - 1) + (qtp2 (zm S) t y i - 1) := by
  have h0 := h
  obtain ⟨⟨-, -, ha⟩, hws, hc⟩ := h
  obtain ⟨ww, wb⟩ := hws j hj
  rw [hy] at ww wb
  have wp := (qWw_b ww).2
  have ho := qB_J h0 j hj
  have L16 := ho.1
  obtain ⟨P0, l0, ⟨b1, b2, b3, b4⟩, b5, b6, b7, b8, -⟩ := wb
  have zkj := (qZn_f (t := t) hw.1 (qB_J h0) ha j (by omega)).1
  obtain ⟨zk1, zk2, -, ⟨zk4, zk5⟩, zk6⟩ := qZ0_f (t := t) zkj hw.1 ho (qZn_0 (t := t) hw.1 (qB_J h0) ha j hj)
  have pl0 := zk1.2.2.1
  have zk4 : 0 ≤ qlp (fL j) (fE j) (qZp w t fL fE fA j).2 := zk4
  have zk5 : qlp (fL j) (fE j) (qZp w t fL fE fA j).2 ≤ (fL j).length := zk5
  have zk6 : (qZp w t fL fE fA j).1.2.2.1 + (if qlp (fL j) (fE j) (qZp w t fL fE fA j).2 < (fL j).length then qlp (fL j) (fE j) (qZp w t fL fE fA j).2 + 1 else (fL j).length) ≤ w := zk6
  have pl0 : 0 ≤ (qZp w t fL fE fA j).1.2.2.1 ∧ (qZp w t fL fE fA j).1.2.2.1 ≤ w := pl0
  have sp : qlp (fL j) (fE j) (qZp w t fL fE fA j).2 = qspz (zm S) y := by rw [← b8]; exact qspz_e wp
  have lies := fun i h1 h2 => qZw_l (w := w) (t := t) (fL := fL) (fE := fE) (fA := fA) (J := J) hj sp ⟨by rw [← sp]; exact zk4, by rw [← sp]; exact zk5⟩ i ⟨h1, h2⟩
  rw [sp] at zk4 zk5 zk6
  rw [← b7] at zk6 pl0
  obtain ⟨Z, hZ⟩ : ∃ Z, qZn w t fL fE fA J = Z := ⟨_, rfl⟩
  obtain ⟨s, hs⟩ : ∃ s, (qZp w t fL fE fA j).1 = s := ⟨_, rfl⟩
  obtain ⟨p, hp⟩ : ∃ p, qspz (zm S) y = p := ⟨_, rfl⟩
  obtain ⟨n, hn⟩ : ∃ n : Int, ((fL j).length : Int) = n := ⟨_, rfl⟩
  rw [hs] at b4 b7
  rw [hp, hn] at zk5 zk6
  rw [hp] at zk4
  have L16 : n ≤ 16 := by omega
  simp only [hZ, hs, hp, hn] at lies
  rw [hZ] at hc
  obtain ⟨-, -, c3, c4, -, -⟩ := hc
  have t1 : 2 ≤ t - 1 := by omega
  -- lines of the book
  have lin : ∀ q, 1 ≤ q → q ≤ Z.1 → (1 ≤ P ∧ 1 ≤ l ∧ l ≤ t - 1 ∧ Z.1 = (P - 1) * (t - 1) + l) := fun q q1 q2 => by
    rcases c3 with ⟨z, -⟩ | z
    · omega
    · exact z
  obtain ⟨u2, hu2⟩ : ∃ u, zm S y 2 = u := ⟨_, rfl⟩
  obtain ⟨u3, hu3⟩ : ∃ u, zm S y 3 = u := ⟨_, rfl⟩
  obtain ⟨u4, hu4⟩ : ∃ u, zm S y 4 = u := ⟨_, rfl⟩
  have eP : P0 - 1 = u2 := by rw [← b5, hu2]
  have el : l0 = u3 := by rw [← b6, hu3]
  have eq : s.2.2.1 = u4 := by rw [← b7, hu4]
  rw [eP, el] at b4
  rw [hu4] at zk6 pl0
  rw [eq] at lies
  obtain ⟨U, hU⟩ : ∃ U, u2 * (t - 1) = U := ⟨_, rfl⟩
  have U1 : (u2 + 1) * (t - 1) = U + (t - 1) := by rw [Int.add_mul, Int.one_mul, hU]
  have u20 : 0 ≤ u2 := by omega
  have U0 : 0 ≤ U := by rw [← hU]; exact Int.mul_nonneg u20 (by omega)
  rw [hU] at b4
  have u3r : 1 ≤ u3 ∧ u3 ≤ t - 1 := by omega
  have s1 : 1 ≤ s.1 := by omega
  refine ⟨⟨by rw [hu2]; exact u20, by rw [hu3]; exact u3r.1, by rw [hu3]; exact u3r.2, by rw [hu4]; exact pl0.1, by rw [hu4]; exact pl0.2, ?_⟩, ⟨by rw [hp]; exact zk4, by rw [hp, hn]; exact zk5⟩, fun i i1 i2 => ?_⟩
  · rw [hu2]
    have n0 : 0 < n := by
      have := qWw_0 ww
      omega
    have lz := (lies 0 (Int.le_refl _) n0).2
    have le : s.1 ≤ Z.1 := by split at lz <;> omega
    obtain ⟨-, l1, l2, l3⟩ := lin s.1 s1 le
    have := qln_1 (a := u2) (A := P - 1) (l := l) (k := u3) t1 ⟨l1, l2⟩ u3r.1 (by omega)
    omega
  · rw [hn] at i2
    obtain ⟨lv, lz⟩ := lies i i1 i2
    have le : s.1 ≤ Z.1 := by split at lz <;> omega
    obtain ⟨-, l1, l2, l3⟩ := lin s.1 s1 le
    have pg : u2 ≤ P - 1 := qln_1 (A := P - 1) (l := l) (k := u3) t1 ⟨l1, l2⟩ u3r.1 (by omega)
    by_cases c1 : i < p
    · obtain ⟨e1, e2, e3⟩ := qtp_a (m := zm S) (t := t) (y := y) (i := i) (by rw [hp]; exact c1)
      rw [e1, e2, e3, hp, hu2, hu3, hu4, if_pos c1]
      rw [if_pos c1, if_pos c1] at lv
      have cw : u4 + i < w := by split at zk6 <;> omega
      have cv := c4 u2 u3 (u4 + i) u20 u3r.1 u3r.2 (by omega) cw (by rw [hU]; omega)
      rw [hU, show U + u3 - 1 = s.1 - 1 by omega, lv] at cv
      exact ⟨⟨u20, by omega⟩, ⟨u3r.1, by omega⟩, ⟨by omega, cw⟩, cv, rfl⟩
    · have pn : p < n := by omega
      rw [if_pos pn] at lz
      have l3' := l3
      rw [if_neg c1, if_neg c1] at lv
      by_cases c2 : u3 + 1 < t
      · obtain ⟨e1, e2, e3⟩ := qtp_b (m := zm S) (t := t) (y := y) (i := i) (by rw [hp]; exact c1) (by rw [hu3]; exact c2)
        rw [e1, e2, e3, hp, hu2, hu3, if_neg c1]
        have cv := c4 u2 (u3 + 1) (i - p) u20 (by omega) (by omega) (by omega) (by omega) (by rw [hU]; omega)
        rw [hU, show U + (u3 + 1) - 1 = s.1 by omega, lv] at cv
        exact ⟨⟨u20, by omega⟩, ⟨by omega, by omega⟩, ⟨by omega, by omega⟩, cv, by omega⟩
      · obtain ⟨e1, e2, e3⟩ := qtp_c (m := zm S) (t := t) (y := y) (i := i) (by rw [hp]; exact c1) (by rw [hu3]; exact c2)
        rw [e1, e2, e3, hp, hu2, hu3, if_neg c1]
        have pg2 : u2 + 1 ≤ P - 1 := qln_1 (A := P - 1) (l := l) (k := 1) t1 ⟨l1, l2⟩ (Int.le_refl _) (by rw [U1]; omega)
        have cv := c4 (u2 + 1) 1 (i - p) (by omega) (by omega) (by omega) (by omega) (by omega) (by rw [U1]; omega)
        rw [U1, show U + (t - 1) + 1 - 1 = s.1 by omega, lv] at cv
        exact ⟨⟨by omega, by omega⟩, ⟨by omega, by omega⟩, ⟨by omega, by omega⟩, cv, by rw [hU, U1]; omega⟩
