/-! A reader comes: what is left is a house. -/
theorem qhl_n {m : Int → Int → Int} {r b : Int} : ∀ n : Nat, (∀ k : Nat, k < n → m 86 k ≠ r) → qhl m r b n = 0 := by
  intro n
  induction n with
  | zero => intro _; rfl
  | succ n ih =>
    intro h
    rw [qhl, ih fun k hk => h k (by omega), if_neg (fun q => h n (by omega) q.1)]
    rfl
theorem q5_reader {S S2 : zS} (hH : qHC S) (g : Int) (g0 : 0 ≤ g) (g2 : g ≤ 2) (h6 : zm S 37 76 < 6) (n2 : (zn S2 : Int) = zn S + 2) (c2 : zc S2 = zc S + 2) (w2 : zw S2 = zw S + 7) (hk : ∀ x, zk S2 x = if x = (zn S : Int) + 1 then (0, 3) else if x = zn S then (27, 0) else zk S x) (o : ∀ x : Int, x < zn S → x ≠ 3 → x ≠ 14 → x ≠ 37 → x ≠ 90 → x ≠ 102 → zm S2 x = zm S x) (o3 : ∀ j, j ≠ 11 → zm S2 3 j = zm S 3 j) (o11 : zm S2 3 11 = zm S 37 76 + 1) (o14 : ∀ i, zm S2 14 i = if i = zm S 37 76 then (zn S : Int) else zm S 14 i) (o37 : ∀ j, j ≠ 0 → j ≠ 76 → zm S2 37 j = zm S 37 j) (o76 : zm S2 37 76 = zm S 37 76 + 1) (o90 : ∀ i, zm S2 90 i = if i = zm S 37 76 then g else zm S 90 i) (oN : zm S2 (zn S) 0 = g ∧ zm S2 (zn S) 1 = (zn S : Int) + 1 ∧ zm S2 (zn S) 2 = 0 ∧ zm S2 (zn S) 3 = 0) (oN1 : ∀ j, zm S2 ((zn S : Int) + 1) j = 0) : qG5 S S2 := by
  have hn := hH.1.1.1.2.2.2
  obtain ⟨-, -, -, p4, p5, p6⟩ := hH.1.1.2.2.1
  obtain ⟨N, hN⟩ : ∃ N : Int, (zn S : Int) = N := ⟨_, rfl⟩
  obtain ⟨R, hR⟩ : ∃ R, zm S 37 76 = R := ⟨_, rfl⟩
  have a : qAg S S2 (qEk_reader S) := ⟨⟨by omega, fun z hz => by rw [hk, if_neg (by omega), if_neg (by omega)]⟩, fun x j hx he => by
    unfold qEk_reader at he
    by_cases q : x = 37
    · subst q
      exact o37 j (by omega) (by omega)
    · by_cases q3 : x = 3
      · subst q3
        exact o3 j (by omega)
      · rw [o x hx q3 (by omega) q (by omega) (by omega)]⟩
  have zkk := a.1.2
  obtain ⟨r1, r2, r3, r4⟩ := p5
  obtain ⟨r11, r12, r13⟩ := r1
  have row : ∀ z, z = 86 ∨ z = 82 ∨ z = 91 ∨ z = 92 → zm S2 z = zm S z := fun z hz => o z (by omega) (by omega) (by omega) (by omega) (by omega) (by omega)
  rw [hN] at n2 hk o o14 oN oN1
  rw [hR] at r11 r12 r13 r2 r3 r4 h6 o11 o14 o76 o90
  have cYr : qYr S2 := by
    refine ⟨⟨by rw [o11, o76], by rw [o76]; omega, by rw [o76]; omega⟩, fun i i1 i2 => ?_, fun i k i1 i2 i3 => ?_, fun i i1 i2 => ?_⟩
    · rw [o76] at i2
      rw [o14, o90, row 92 (by omega), row 91 (by omega)]
      by_cases q : i = R
      · rw [if_pos q, if_pos q]
        obtain ⟨z1, z2⟩ := r4 i (by omega) (by omega)
        refine ⟨⟨by rw [hk, if_neg (by omega), if_pos rfl], by rw [hk, if_pos rfl], by omega, by omega, oN.2.1⟩, oN.1, ⟨g0, g2⟩, by rw [oN.2.2.2, z1], by rw [z1]; decide, fun c c1 c2 => ?_⟩
        rw [oN1, z2 c c1 c2]
        exact ⟨rfl, by decide, by decide⟩
      · rw [if_neg q, if_neg q]
        obtain ⟨⟨s1, s2, s3, s4, s5⟩, s6, s7, s8, s9, s10⟩ := r2 i i1 (by omega)
        rw [hN] at s4
        obtain ⟨y, hy⟩ : ∃ y, zm S 14 i = y := ⟨_, rfl⟩
        rw [hy] at s1 s2 s3 s4 s5 s6 s8 s10 ⊢
        have e1 : zm S2 y = zm S y := o y (by omega) (by omega) (by omega) (by omega) (by omega) (by omega)
        have e2 : zm S2 (y + 1) = zm S (y + 1) := o (y + 1) (by omega) (by omega) (by omega) (by omega) (by omega) (by omega)
        rw [e1, e2]
        exact ⟨⟨by rw [hk, if_neg (by omega), if_neg (by omega)]; exact s1, by rw [hk, if_neg (by omega), if_neg (by omega)]; exact s2, s3, by omega, s5⟩, s6, s7, s8, s9, s10⟩
    · rw [o76] at i3
      rw [o14, o14]
      by_cases q : k = R
      · rw [if_pos q, if_neg (by omega)]
        have := (r2 i i1 (by omega)).1.2.2.2.1
        omega
      · rw [if_neg q, if_neg (by omega)]
        exact r3 i k i1 i2 (by omega)
    · rw [o76] at i1
      rw [row 92 (by omega), row 91 (by omega)]
      exact r4 i (by omega) i2
  have cYh : qYh S2 := fun i i1 i2 => by
    rw [o76] at i2
    rw [o14, o37 65 (by decide) (by decide), qhl_e (row 86 (by omega)) (row 82 (by omega)) i (-1) _]
    by_cases q : i = R
    · rw [if_pos q, oN.2.2.1, qhl_n _ fun k hk2 => ?_]
      have hd := (p4.2.1 k (by omega) (by have := p4.1.2.1; omega)).2.2.2.2.2.2.2.2
      rw [hR] at hd
      omega
    · rw [if_neg q]
      have s := (r2 i i1 (by omega)).1
      rw [hN] at s
      rw [o (zm S 14 i) (by omega) (by omega) (by omega) (by omega) (by omega) (by omega)]
      exact p6 i i1 (by omega)
  exact q5_g (qGo_g (qk_reader hH a cYr cYh (by omega)) (by omega) (by omega) (o37 16 (by decide) (by decide)) (o37 65 (by decide) (by decide))) (o37 50 (by decide) (by decide)) (o37 16 (by decide) (by decide))
