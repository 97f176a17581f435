/-! Words stand behind one another. -/
def bFn (m : Int → Int → Int) (b : Int) : Nat → Int
  | 0 => -1
  | j + 1 => 100 * (m 52 b * wv m b j 2 + wv m b j 3) + wv m b j 4
def pFn (m : Int → Int → Int) (b : Int) : Nat → Int
  | 0 => 1
  | j + 1 => wv m b j 6
/-- what the law asks of one word -/
def wOK (m : Int → Int → Int) (b : Int) (j : Nat) : Prop := (0 ≤ wv m b j 2 ∧ wv m b j 2 < bv m b 1) ∧ (1 ≤ wv m b j 3 ∧ wv m b j 3 < m 52 b) ∧ (0 ≤ wv m b j 4 ∧ wv m b j 4 < m 51 b) ∧ (0 < wv m b j 0 ∧ wv m b j 0 < 16) ∧ 0 < wv m b j 5 ∧
  0 < cv m b (wv m b j 2) (wv m b j 3) (wv m b j 4) ∧ (3 ≤ wv m b j 4 → cv m b (wv m b j 2) (wv m b j 3) (wv m b j 4 - 1) = 0) ∧ bFn m b j < bFn m b (j + 1) ∧ (pFn m b j ≤ wv m b j 6 ∧ wv m b j 6 ≤ pFn m b j + 1)
/-- what it asks of a book -/
def kOK (m : Int → Int → Int) (b : Int) (J : Nat) : Prop := (18 ≤ m 51 b ∧ m 51 b ≤ 40) ∧ (3 ≤ m 52 b ∧ m 52 b ≤ 25) ∧ (0 ≤ bv m b 1 ∧ bv m b 1 ≤ 121) ∧ (m 54 b = (J : Int) ∧ J ≤ 80) ∧ (J = 0 → bv m b 1 = 0) ∧ (∀ q, 0 ≤ m (m 8 b + 2) q ∧ m (m 8 b + 2) q < 64) ∧ (∀ j, j < J → wOK m b j) ∧
  (0 < J → 0 < bv m b 1 ∧ bv m b 4 = qsum (m (m 8 b + 2)) (bv m b 1 * (m 52 b * m 51 b)).toNat ∧ pFn m b J = bv m b 3 ∧ (bv m b 1 - 1) * m 52 b < bv m b 2 ∧ bv m b 2 ≤ bv m b 1 * m 52 b)
theorem k_all {S : zS} {b : Int} (hH : qHC S) (hi : hFr (zm S)) (hb : 0 ≤ b ∧ b < zm S 37 16) : ∃ J : Nat, kOK (zm S) b J := by
  obtain ⟨⟨⟨⟨hK, hP, hL, hn⟩, ⟨hT, hC, hR, hk⟩, hPo, hY⟩, hBB⟩, hYC, hFc⟩ := id hH
  have bs := hY.2.1 b hb.1 hb.2
  have wr := bs.2.2.2.1.2
  have tr := bs.2.2.2.2.1.2
  obtain ⟨J, fL, fE, fA, fU, fM, P, l, w0, -⟩ := hBB b hb.1 hb.2
  obtain ⟨x, hx⟩ : ∃ x, zm S 8 b = x := ⟨_, rfl⟩
  obtain ⟨w, hw⟩ : ∃ w, zm S 51 b = w := ⟨_, rfl⟩
  obtain ⟨t, ht⟩ : ∃ t, zm S 52 b = t := ⟨_, rfl⟩
  rw [hx, hw, ht] at w0
  rw [hw] at wr
  rw [ht] at tr
  obtain ⟨Pr, x9, zk⟩ := qB0_P w0 wr.1 tr
  have e1 : bv (zm S) b 1 = P := by
    show zm S (zm S 8 b) (8 + 1) = P
    rw [hx]
    exact x9
  have ho := qB_J w0
  have hA := w0.1.2.2
  have wL : ∀ j, j < J → (0 < (fL j).length ∧ (fL j).length < 16 ∧ 0 < qnth (fL j) 0) ∧ zm S (zm S (x + 1) j + 3) 1 = (fL j).length := fun j hj => by
    obtain ⟨a, b', -⟩ := wd_L bs.2.1.2.2 hC hi (w0.2.1 j hj).1
    exact ⟨a, b'⟩
  obtain ⟨⟨pm, bd⟩, ⟨m10, m11⟩, al, cel, -, zer⟩ := w0.2.2
  have m12 := bd.2.1
  have cr := bd.2.2
  obtain ⟨Z, hZ⟩ : ∃ Z, qZn w t fL fE fA J = Z := ⟨_, rfl⟩
  rw [hZ] at m10 m11 al cel
  -- one word
  have one : ∀ j, j < J → ∃ s, (qZp w t fL fE fA j).1 = s ∧ s.1 = wv (zm S) b j 2 * (t - 1) + wv (zm S) b j 3 ∧ wv (zm S) b j 4 = s.2.2.1 ∧ wv (zm S) b j 6 = s.2.1 ∧ (0 ≤ wv (zm S) b j 2 ∧ wv (zm S) b j 2 < P) ∧ (1 ≤ wv (zm S) b j 3 ∧ wv (zm S) b j 3 ≤ t - 1) ∧ (0 ≤ wv (zm S) b j 4 ∧ wv (zm S) b j 4 < w) ∧ (0 < wv (zm S) b j 0 ∧ wv (zm S) b j 0 < 16) ∧ 0 < wv (zm S) b j 5 ∧ 0 < cv (zm S) b (wv (zm S) b j 2) (wv (zm S) b j 3) (wv (zm S) b j 4) ∧ (3 ≤ wv (zm S) b j 4 → cv (zm S) b (wv (zm S) b j 2) (wv (zm S) b j 3) (wv (zm S) b j 4 - 1) = 0) := fun j hj => by
    obtain ⟨y, hy⟩ : ∃ y, zm S (x + 1) j = y := ⟨_, rfl⟩
    obtain ⟨s, hs⟩ : ∃ s, (qZp w t fL fE fA j).1 = s := ⟨_, rfl⟩
    obtain ⟨⟨l0, l15, lc⟩, l1⟩ := wL j hj
    have wb := (w0.2.1 j hj).2
    obtain ⟨g, -⟩ := q_wordIn w0 wr tr hj hy
    rw [hy] at wb l1
    rw [hs] at wb
    obtain ⟨P0, l', ⟨b1, b2, b3, b4⟩, b5, b6, b7, b8, b9⟩ := wb
    have zkj := (qZn_f (t := t) wr.1 ho hA j (by omega)).1
    obtain ⟨z1, z2, ⟨z3, -⟩, ⟨z4, z5⟩, z6⟩ := qZ0_f (t := t) zkj wr.1 (ho j hj) (qZn_0 (t := t) wr.1 ho hA j hj)
    have z3 : 1 ≤ (qZp w t fL fE fA j).2 := z3
    have z4 : 0 ≤ qlp (fL j) (fE j) (qZp w t fL fE fA j).2 := z4
    have z5 : qlp (fL j) (fE j) (qZp w t fL fE fA j).2 ≤ (fL j).length := z5
    have z6 : (qZp w t fL fE fA j).1.2.2.1 + (if qlp (fL j) (fE j) (qZp w t fL fE fA j).2 < (fL j).length then qlp (fL j) (fE j) (qZp w t fL fE fA j).2 + 1 else (fL j).length) ≤ w := z6
    obtain ⟨sp, hsp⟩ : ∃ sp, qlp (fL j) (fE j) (qZp w t fL fE fA j).2 = sp := ⟨_, rfl⟩
    rw [hsp] at z4 z5 z6
    rw [hs] at z6
    have v2 : wv (zm S) b j 2 = zm S y 2 := by show zm S (zm S (zm S 8 b + 1) j) 2 = _; rw [hx, hy]
    have v3 : wv (zm S) b j 3 = zm S y 3 := by show zm S (zm S (zm S 8 b + 1) j) 3 = _; rw [hx, hy]
    have v4 : wv (zm S) b j 4 = zm S y 4 := by show zm S (zm S (zm S 8 b + 1) j) 4 = _; rw [hx, hy]
    have v5 : wv (zm S) b j 5 = zm S y 5 := by show zm S (zm S (zm S 8 b + 1) j) 5 = _; rw [hx, hy]
    have v6 : wv (zm S) b j 6 = zm S y 6 := by show zm S (zm S (zm S 8 b + 1) j) 6 = _; rw [hx, hy]
    have v0 : wv (zm S) b j 0 = zm S (y + 3) 1 := by show zm S (zm S (zm S 8 b + 1) j + 3) 1 = _; rw [hx, hy]
    have pw : zm S y 4 < w := by
      rw [b7]
      split at z6 <;> omega
    have s1 : s.1 = zm S y 2 * (t - 1) + zm S y 3 := by rw [b4, b5, b6]
    -- the state behind the word, and at last
    have e : qZn w t fL fE fA (j + 1) = qZ1 s (fL j) sp := by rw [← hsp, ← hs]; rfl
    have gJ := qZg_n w t fL fE fA (j + 1) (J - (j + 1))
    rw [show j + 1 + (J - (j + 1)) = J by omega, hZ, e] at gJ
    have g1 := qZg_1 s (fL j) sp
    have gs := qZg_t g1 gJ
    obtain ⟨h1, h2⟩ := qZ1_h s (fL j) sp ⟨z4, z5⟩ l0 lc
    have cc : ∀ c, 0 ≤ c → c < w → cv (zm S) b (zm S y 2) (zm S y 3) c = Z.2.2.2.1 (s.1 - 1) c := fun c c0 c1 => by
      unfold cv
      rw [hx, ht, hw]
      have := cel (zm S y 2) (zm S y 3) c (by omega) (by omega) (by omega) c0 c1 (by have := gs.1; omega)
      rw [this, show zm S y 2 * (t - 1) + zm S y 3 - 1 = s.1 - 1 by omega]
    refine ⟨s, hs, by rw [v2, v3]; exact s1, by rw [v4]; exact b7, by rw [v6]; exact b9, by rw [v2]; omega, by rw [v3]; omega, by rw [v4]; omega, by rw [v0, l1]; omega, by rw [v5, b8]; omega, ?_, fun q => ?_⟩
    · rw [v2, v3, v4, cc _ (by omega) pw, b7, gJ.2.2 _ _ h2]
      exact h1
    · rw [v4] at q
      have q3 : 3 ≤ (qZ0 w t (qZn w t fL fE fA j) (fL j) (fE j) (fA j)).1.2.2.1 := by
        have : (qZp w t fL fE fA j).1.2.2.1 = zm S y 4 := by rw [hs, b7]
        show 3 ≤ (qZp w t fL fE fA j).1.2.2.1
        rw [this]
        exact q
      obtain ⟨a1, a2, a3⟩ := qZ0_33 w t _ _ _ _ q3
      have a1 : (qZp w t fL fE fA j).1.1 = (qZn w t fL fE fA j).1 := a1
      have a2 : (qZp w t fL fE fA j).1.2.2.1 = (qZn w t fL fE fA j).2.2.1 + 1 := a2
      have a3 : (qZp w t fL fE fA j).1.2.2.2 = (qZn w t fL fE fA j).2.2.2 := a3
      rw [hs] at a1 a2 a3
      rw [v2, v3, v4, cc _ (by omega) (by omega), gs.2.2 _ _ (Or.inr ⟨rfl, by rw [b7]; omega⟩), a3, a1]
      exact zkj.2.2.2.2.1 _ (by omega)
  have M1 : ∀ j, bFn (zm S) b (j + 1) = 100 * (t * wv (zm S) b j 2 + wv (zm S) b j 3) + wv (zm S) b j 4 := fun j => by
    show 100 * (zm S 52 b * wv (zm S) b j 2 + wv (zm S) b j 3) + wv (zm S) b j 4 = _
    rw [ht]
  have tm : ∀ a : Int, t * a = a * (t - 1) + a := fun a => by
    rw [Int.mul_sub, Int.mul_one, Int.mul_comm t a]
    omega
  refine ⟨J, ⟨by rw [hw]; exact wr.1, by rw [hw]; exact wr.2⟩, ⟨by rw [ht]; exact tr.1, by rw [ht]; exact tr.2⟩, by rw [e1]; exact ⟨Pr.1, Pr.2.2⟩, ⟨w0.1.1, w0.1.2.1⟩, fun j0 => ?_, by rw [hx]; exact cr, fun j hj => ?_, fun j0 => ?_⟩
  · rw [e1]
    rcases al with ⟨-, q, -⟩ | ⟨q0, q1, -, q3⟩
    · exact q
    · exfalso
      rw [j0] at hZ
      have : Z.1 = 0 := by rw [← hZ]; rfl
      have := Int.mul_nonneg (show 0 ≤ P - 1 by omega) (show 0 ≤ t - 1 by omega)
      omega
  · obtain ⟨s, hs, o1, o2, o3, o4, o5, o6, o7, o8, o9, o10⟩ := one j hj
    refine ⟨by rw [e1]; exact o4, by rw [ht]; omega, by rw [hw]; exact o6, o7, o8, o9, o10, ?_, ?_⟩
    · cases j with
      | zero =>
        rw [M1]
        have := Int.mul_nonneg (show 0 ≤ t by omega) o4.1
        show (-1 : Int) < _
        omega
      | succ i =>
        obtain ⟨r, hr, p1, p2, p3, p4, p5, p6, -⟩ := one i (by omega)
        obtain ⟨⟨l0, -⟩, -⟩ := wL i (by omega)
        rw [M1, M1, tm, tm]
        have n1 := qZ1_n r (fL i) (qlp (fL i) (fE i) (qZp w t fL fE fA i).2) l0
        have e : qZn w t fL fE fA (i + 1) = qZ1 r (fL i) (qlp (fL i) (fE i) (qZp w t fL fE fA i).2) := by rw [← hr]; rfl
        have g0 := qZg_0 w t (qZn w t fL fE fA (i + 1)) (fL (i + 1)) (fE (i + 1)) (fA (i + 1))
        have g0 : qZg (qZn w t fL fE fA (i + 1)) (qZp w t fL fE fA (i + 1)).1 := g0
        rw [hs, e] at g0
        obtain ⟨g1, g2, -⟩ := g0
        have le : r.1 < s.1 ∨ (s.1 = r.1 ∧ r.2.2.1 < s.2.2.1) := by
          rcases n1 with n1 | ⟨n1, n2⟩
          · exact Or.inl (by omega)
          · by_cases c : s.1 = (qZ1 r (fL i) (qlp (fL i) (fE i) (qZp w t fL fE fA i).2)).1
            · have := g2 c
              exact Or.inr ⟨by omega, by omega⟩
            · exact Or.inl (by omega)
        have pg : wv (zm S) b i 2 ≤ wv (zm S) b ((i + 1 : Nat) : Int) 2 := qln_1 (T1 := t - 1) (l := wv (zm S) b ((i + 1 : Nat) : Int) 3) (k := wv (zm S) b i 3) (by omega) o5 p5.1 (by omega)
        rcases le with le | ⟨le, lp⟩
        · omega
        · have pg2 : wv (zm S) b ((i + 1 : Nat) : Int) 2 ≤ wv (zm S) b i 2 := qln_1 (T1 := t - 1) (l := wv (zm S) b i 3) (k := wv (zm S) b ((i + 1 : Nat) : Int) 3) (by omega) p5 o5.1 (by omega)
          have pe : wv (zm S) b i 2 = wv (zm S) b ((i + 1 : Nat) : Int) 2 := by omega
          rw [pe] at p1 ⊢
          omega
    · have pz := qZ0_p w t (qZn w t fL fE fA j) (fL j) (fE j) (fA j)
      have pz : (qZp w t fL fE fA j).1.2.1 = (qZn w t fL fE fA j).2.1 ∨ (qZp w t fL fE fA j).1.2.1 = (qZn w t fL fE fA j).2.1 + 1 := pz
      have pe : pFn (zm S) b j = (qZn w t fL fE fA j).2.1 := by
        cases j with
        | zero => rfl
        | succ i =>
          obtain ⟨r, hr, -, -, p3, -⟩ := one i (by omega)
          have e : qZn w t fL fE fA (i + 1) = qZ1 r (fL i) (qlp (fL i) (fE i) (qZp w t fL fE fA i).2) := by rw [← hr]; rfl
          rw [e, qZ1_p]
          exact p3
      rw [hs] at pz
      rw [pe, o3]
      omega
  · obtain ⟨i, rfl⟩ : ∃ i, J = i + 1 := ⟨J - 1, by omega⟩
    have zp : 0 < Z.1 := by
      rw [← hZ]
      exact (qZn_f (t := t) wr.1 ho hA (i + 1) (Nat.le_refl _)).2 j0
    obtain ⟨q1, q2, q3, q4⟩ := al.resolve_left fun q => by omega
    rw [e1, ht, hw, hx]
    have b2 : bv (zm S) b 2 = Z.1 + P := by
      show zm S (zm S 8 b) (8 + 2) = _
      rw [hx]
      exact m10
    have b3 : bv (zm S) b 3 = Z.2.1 := by
      show zm S (zm S 8 b) (8 + 3) = _
      rw [hx]
      exact m11
    have b4 : bv (zm S) b 4 = zm S x 12 := by
      show zm S (zm S 8 b) (8 + 4) = _
      rw [hx]
      rfl
    have m1 : (P - 1) * t = (P - 1) * (t - 1) + (P - 1) := by rw [Int.mul_comm, tm]
    have m2 : P * t = (P - 1) * t + t := by
      rw [Int.sub_mul, Int.one_mul]
      omega
    refine ⟨by omega, ?_, ?_, by rw [b2]; omega, by rw [b2]; omega⟩
    · rw [b4, m12]
      have le : P * (t * w) ≤ qbl w t := by
        unfold qbl
        rw [← Int.mul_assoc]
        exact Int.mul_le_mul_of_nonneg_right (Int.mul_le_mul_of_nonneg_right Pr.2.1 (by omega)) (by omega)
      have p0 : 0 ≤ P * (t * w) := Int.mul_nonneg (by omega) (Int.mul_nonneg (by omega) (by omega))
      obtain ⟨k, hk⟩ : ∃ k : Nat, (qbl w t).toNat = (P * (t * w)).toNat + k := ⟨(qbl w t).toNat - (P * (t * w)).toNat, by omega⟩
      rw [hk]
      refine qsum_z _ _ k fun q a1 a2 => ?_
      have d1 := Int.mul_ediv_add_emod q w
      have d2 := Int.emod_nonneg q (show w ≠ 0 by omega)
      have d3 := Int.emod_lt_of_pos q (show 0 < w by omega)
      have d4 : P * t ≤ q / w := by
        refine (Int.le_ediv_iff_mul_le (by omega)).mpr ?_
        rw [Int.mul_assoc]
        omega
      have := zer (q / w) (q % w) (by have := Int.mul_nonneg (show 0 ≤ P by omega) (show 0 ≤ t by omega); omega) (by omega) d2 d3
      rw [Int.mul_comm, d1] at this
      exact this
    · obtain ⟨r, hr, -, -, p3, -⟩ := one i (by omega)
      have e : qZn w t fL fE fA (i + 1) = qZ1 r (fL i) (qlp (fL i) (fE i) (qZp w t fL fE fA i).2) := by rw [← hr]; rfl
      rw [b3, ← hZ, e, qZ1_p]
      exact p3
