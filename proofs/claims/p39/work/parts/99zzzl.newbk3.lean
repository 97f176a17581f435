/-! A book is laid on: what is left is a house. -/
theorem q5_book {S S2 : zS} (hH : qHC S) (h50 : zm S 37 50 < zm S 37 16) (c g w t b : Int) (b01 : 0 ≤ b ∧ b ≤ 1) (c0 : 0 ≤ c) (c1 : c < zm S 37 4) (g0 : 0 ≤ g) (g3 : g ≤ 3) (w0 : 18 ≤ w) (w1 : w ≤ 40) (t0 : 3 ≤ t) (t1 : t ≤ 25) (h4 : zm S 37 16 < 4) (n2 : (zn S2 : Int) = zn S + 3) (c2 : zc S2 = zc S + 3) (w2 : zw S2 = zw S + 98 + (qbl w t).toNat) (hk : ∀ x, zk S2 x = if x = (zn S : Int) + 2 then (3, qbl w t) else if x = (zn S : Int) + 1 then (11, 80) else if x = zn S then (20, 0) else zk S x) (o : ∀ x : Int, x < zn S → x ≠ 3 → x ≠ 8 → x ≠ 37 → ¬ (49 ≤ x ∧ x ≤ 53) → x ≠ 102 → zm S2 x = zm S x) (o3 : ∀ j, j ≠ 6 → zm S2 3 j = zm S 3 j) (o6 : zm S2 3 6 = zm S 37 16 + 1) (o8 : ∀ i, zm S2 8 i = if i = zm S 37 16 then (zn S : Int) else zm S 8 i) (o37 : ∀ j, j ≠ 0 → j ≠ 16 → zm S2 37 j = zm S 37 j) (o16 : zm S2 37 16 = zm S 37 16 + 1) (o49 : ∀ i, zm S2 49 i = if i = zm S 37 16 then c else zm S 49 i) (o50 : ∀ i, zm S2 50 i = if i = zm S 37 16 then g else zm S 50 i) (o51 : ∀ i, zm S2 51 i = if i = zm S 37 16 then w else zm S 51 i) (o52 : ∀ i, zm S2 52 i = if i = zm S 37 16 then t else zm S 52 i) (o53 : ∀ i, zm S2 53 i = if i = zm S 37 16 then b else zm S 53 i)
    (oN : ∀ j, zm S2 (zn S) j = if j = 8 then (zn S : Int) + 2 else if j = 5 then b else if j = 4 then t else if j = 3 then w else if j = 2 then g else if j = 1 then zm S 6 c else if j = 0 then c else if j = 11 then 1 else if j = 6 then (zn S : Int) + 1 else 0) (oN2 : ∀ j, zm S2 ((zn S : Int) + 2) j = 0) : qG5 S S2 := by
  have hn := hH.1.1.1.2.2.2
  have bl := qbl_r (w := w) (t := t) ⟨t0, t1⟩ ⟨w0, w1⟩
  have a : qAg S S2 (qEk_book S) := ⟨⟨by omega, fun z hz => by rw [hk, if_neg (by omega), if_neg (by omega), if_neg (by omega)]⟩, fun x j hx he => by
    unfold qEk_book at he
    by_cases q : x = 37
    · subst q
      exact o37 j (by omega) (by omega)
    · by_cases q3 : x = 3
      · subst q3
        exact o3 j (by omega)
      · rw [o x hx q3 (by omega) q (by omega) (by omega)]⟩
  have cYb := qnb_b hH rfl rfl c0 c1 g0 g3 w0 w1 t0 t1 b01 h4 n2 hk o o6 o8 o37 o16 o49 o50 o51 o52 o53 oN
  have cBB := qnb_B hH h50 rfl rfl w0 t0 a o o8 o37 o16 o49 o50 o51 o52 oN oN2 h4
  obtain ⟨cYC, cFc, cYp⟩ := qnb_Y hH rfl rfl a o o3 o8 o37 o16 o51 o52 o53 (by rw [oN]; simp only [Int.reduceEq, ↓reduceIte])
  have HC := qk_book hH a cYb cBB cYC cFc cYp (by rw [o16]; omega)
  refine ⟨⟨HC, by omega, ?_⟩, Or.inl (o37 50 (by decide) (by decide)), by rw [o16]; omega⟩
  rw [o16, o37 65 (by decide) (by decide)]
  omega
