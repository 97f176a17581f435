/-! A book is laid on: what is left is a house. -/
theorem qbn_n0 {m : Int → Int → Int} {b : Int} : ∀ n : Nat, (∀ k : Nat, k < n → m 82 k ≠ b) → qbn m b n = 0 := by
  intro n
  induction n with
  | zero => intro _; rfl
  | succ n ih =>
    intro h
    rw [qbn, ih fun k hk => h k (by omega), if_neg (h n (by omega))]
    rfl
theorem qfb_z {S : zS} {b z i : Int} (hs : qBs S (zm S 8 b) b) (hb : qBB S b) (h : qfb S b (zm S 8 b) z i) : 103 ≤ z ∧ z < zn S := by
  refine ⟨(qfb_n hs hb h).1, ?_⟩
  have hx := (qBs_x hs).1
  obtain ⟨J, fL, fE, fA, fU, fM, P, l, h0, -⟩ := hb
  rcases h with q | q | q | ⟨j, j1, j2, z1, z2⟩
  · omega
  · omega
  · omega
  · obtain ⟨⟨e1, -⟩, a4, -⟩ := h0
    obtain ⟨w1, -⟩ := a4 j.toNat (by omega)
    rw [show ((j.toNat : Nat) : Int) = j by omega] at w1
    have := (qWw_b w1).1.2.2
    omega
theorem qnb_b {S S2 : zS} {B N c g w t b : Int} (hH : qHC S) (hB : zm S 37 16 = B) (hN : (zn S : Int) = N) (c0 : 0 ≤ c) (c1 : c < zm S 37 4) (g0 : 0 ≤ g) (g3 : g ≤ 3) (w0 : 18 ≤ w) (w1 : w ≤ 40) (t0 : 3 ≤ t) (t1 : t ≤ 25) (b01 : 0 ≤ b ∧ b ≤ 1) (h4 : B < 4) (n2 : (zn S2 : Int) = N + 3) (hk : ∀ x, zk S2 x = if x = N + 2 then (3, qbl w t) else if x = N + 1 then (11, 80) else if x = N then (20, 0) else zk S x) (o : ∀ x : Int, x < N → x ≠ 3 → x ≠ 8 → x ≠ 37 → ¬ (49 ≤ x ∧ x ≤ 53) → x ≠ 102 → zm S2 x = zm S x) (o6 : zm S2 3 6 = B + 1) (o8 : ∀ i, zm S2 8 i = if i = B then N else zm S 8 i) (o37 : ∀ j, j ≠ 0 → j ≠ 16 → zm S2 37 j = zm S 37 j) (o16 : zm S2 37 16 = B + 1) (o49 : ∀ i, zm S2 49 i = if i = B then c else zm S 49 i) (o50 : ∀ i, zm S2 50 i = if i = B then g else zm S 50 i) (o51 : ∀ i, zm S2 51 i = if i = B then w else zm S 51 i) (o52 : ∀ i, zm S2 52 i = if i = B then t else zm S 52 i) (o53 : ∀ i, zm S2 53 i = if i = B then b else zm S 53 i)
    (oN : ∀ j, zm S2 N j = if j = 8 then N + 2 else if j = 5 then b else if j = 4 then t else if j = 3 then w else if j = 2 then g else if j = 1 then zm S 6 c else if j = 0 then c else if j = 11 then 1 else if j = 6 then N + 1 else 0) : qYb S2 := by
  have hn := hH.1.1.1.2.2.2
  have h49_ := hH.1.1.2.2.2
  obtain ⟨⟨y1, y2, y3⟩, y4, y5, y6⟩ := h49_
  rw [hB] at y1 y2 y3 y4 y5 y6
  rw [hN] at hn
  have row : ∀ z, z = 6 ∨ z = 54 ∨ z = 62 ∨ z = 63 → zm S2 z = zm S z := fun z hz => o z (by omega) (by omega) (by omega) (by omega) (by omega) (by omega)
  refine ⟨⟨by rw [o6, o16], by rw [o16]; omega, by rw [o16]; omega⟩, fun i i1 i2 => ?_, fun i k i1 i2 i3 => ?_, fun i i1 i2 => ?_⟩
  · rw [o16] at i2
    rw [o8]
    unfold qBs
    rw [o49, o50, o51, o52, o53, row 6 (by omega), row 54 (by omega), row 62 (by omega), row 63 (by omega), o37 4 (by decide) (by decide)]
    by_cases q : i = B
    · rw [if_pos q, if_pos q, if_pos q, if_pos q, if_pos q, if_pos q]
      obtain ⟨z1, z2, z3⟩ := y6 i (by omega) (by omega)
      rw [oN, oN, oN, oN, oN, oN, oN, oN, oN, oN, oN]
      simp only [Int.reduceEq, ↓reduceIte]
      rw [z1, z2, z3]
      refine ⟨⟨by rw [hk, if_neg (by omega), if_neg (by omega), if_pos rfl], by rw [hk, if_neg (by omega), if_pos rfl], by rw [hk, if_pos rfl], hn, by omega⟩, ⟨trivial, trivial, c0, c1⟩, ⟨trivial, g0, g3⟩, ⟨trivial, w0, w1⟩, ⟨trivial, t0, t1⟩, ⟨trivial, b01⟩, trivial, ⟨rfl, by decide, by decide⟩, trivial, ⟨rfl, by decide, by decide⟩, rfl, by decide, by decide⟩
    · rw [if_neg q, if_neg q, if_neg q, if_neg q, if_neg q, if_neg q]
      have hs := y4 i i1 (by omega)
      have hb := (qBs_x hs).1
      rw [hN] at hb
      obtain ⟨x, hx⟩ : ∃ x, zm S 8 i = x := ⟨_, rfl⟩
      rw [hx] at hs hb ⊢
      rw [o x (by omega) (by omega) (by omega) (by omega) (by omega) (by omega)]
      obtain ⟨⟨s1, s2, s3, s4, s5⟩, s6⟩ := hs
      exact ⟨⟨by rw [hk, if_neg (by omega), if_neg (by omega), if_neg (by omega)]; exact s1, by rw [hk, if_neg (by omega), if_neg (by omega), if_neg (by omega)]; exact s2, by rw [hk, if_neg (by omega), if_neg (by omega), if_neg (by omega)]; exact s3, s4, by omega⟩, s6⟩
  · rw [o16] at i3
    rw [o8, o8]
    have hb := (qBs_x (y4 i i1 (by omega))).1
    by_cases q : k = B
    · rw [if_pos q, if_neg (by omega)]
      omega
    · rw [if_neg q, if_neg (by omega)]
      exact y5 i k i1 i2 (by omega)
  · rw [o16] at i1
    rw [row 54 (by omega), row 62 (by omega), row 63 (by omega)]
    exact y6 i (by omega) i2
