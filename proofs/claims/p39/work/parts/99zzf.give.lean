/-! A copy comes back: the class, the reference. -/
def qhu (m : Int → Int → Int) (k hu : Int) : Int → Int → Int := if hu = -1 then m else qu m 85 (160 * k + hu) 1
theorem qhu_r (m : Int → Int → Int) (k hu i : Int) : qhu m k hu 85 i = if ¬ hu = -1 ∧ i = 160 * k + hu then 1 else m 85 i := by
  unfold qhu
  by_cases c : hu = -1
  · rw [if_pos c, if_neg fun q => q.1 c]
  · rw [if_neg c, qu_row]
    by_cases c2 : i = 160 * k + hu
    · rw [if_pos ⟨c, c2⟩]
      exact if_pos c2
    · rw [if_neg fun q => c2 q.2]
      exact if_neg c2
theorem qhu_o (m : Int → Int → Int) (k hu z : Int) (h : z ≠ 85) : qhu m k hu z = m z := by
  unfold qhu
  split
  · rfl
  · rw [qu_o _ _ _ _ _ h]
/-- the class behind a copy that came back -/
def qGvC (S : zS) (C : Int → Int → Int) (k hu v x y g w t P : Int) : Prop :=
  (∀ j, C g j = if j = 2 then zm S g 2 - 1 else if j = 3 then z32 (zm S g 3 + v) else zm S g j) ∧ (∀ j, j ≠ 4 → C y j = if j = 7 then -1 else if j = 6 then -1 else zm S y j) ∧ C y 4 = qhp (qhu (zm S) k hu) k 160 ∧
  (∀ p, 0 ≤ p → p < P → C (y + 2) p = qhu (zm S) k hu 85 (160 * k + p)) ∧ (∀ i : Nat, (i : Int) < P * (t * w) → C (y + 1) i = if qhu (zm S) k hu 85 (160 * k + i / (t * w)) = 0 then qfwx (zm S (x + 2)) (fun q => zm S 83 (6 * k + q)) 6 i else 0) ∧ ∀ z, z ≠ g → z ≠ y → z ≠ y + 1 → z ≠ y + 2 → C z = zm S z
theorem s_giveBack (e : Nat) (S : zS) (k hu h b x y g w t P v : Int) (he : 5 ≤ e) (hH : qHC S) (hk : 0 ≤ k ∧ k < zm S 37 65) (hq : qCq S k b x y w t P) (h86 : zm S 86 k = h) (h0 : 0 ≤ h ∧ h < zm S 37 76) (hg : zm S 14 h = g) (hhu : hu = -1 ∨ (0 ≤ hu ∧ hu < P)) (hv : qlb (zm S) k = v) :
    ∃ C, zD (e + 1) 148 [vr 3, vi k, vi hu] S = some (.inl (some (vi v)), qW S C) ∧ qGvC S C k hu v x y g w t P := by
  obtain ⟨⟨⟨⟨hK, hP, hL, hn⟩, -, ⟨p1, p2, p3, p4, p5, p6⟩, hY⟩, hBB⟩, hYC, hFc⟩ := id hH
  have hq0 := hq
  obtain ⟨⟨a1, a2, a3, a4, a5, a6⟩, ⟨b1, b2, b3, b4, b5, b6⟩, ⟨ky, ky1, ky2, y103, yn⟩, ⟨y2, y3, y4⟩, e1, e2, e3, e4, e5⟩ := hq
  have co := s_copyOf_y e S k (by omega) hK hP p4.1 hk
  have dl := s_daysLate e S k (by omega) hK p4 p2 hk.1 hk.2 (by omega)
  obtain ⟨-, -, -, y1, y5, y6, y7, y8, -⟩ := p4.2.1 k hk.1 hk.2
  have d13 := p2.1
  obtain ⟨⟨kg, kg1, g103, gn, g1⟩, -, -, g3, -⟩ := p5.2.1 h h0.1 h0.2
  have lt := p6 h h0.1 h0.2
  have lr := qhl_r (zm S) h (-1) (zm S 37 65).toNat
  have n65 := p4.1.2
  have ro := s_readerOf_y e S h (by omega) hK hP p5.1 h0
  rw [hg] at kg kg1 g103 gn g1 g3 lt ro
  rw [a3] at co dl y1 y5 y6 y7 y8
  rw [hv] at dl
  rw [h86] at y6
  rw [a1, a2] at y1
  have yg : y ≠ g := qkne ky kg (by decide)
  have y1g : y + 1 ≠ g := qkne ky1 kg (by simp)
  have y2g : y + 2 ≠ g := qkne ky2 kg (by simp)
  obtain ⟨⟨kx, -, -, x103, xn⟩, -, -, ⟨x3, wr⟩, ⟨x4, tr⟩, -⟩ := hY.2.1 b b1 b2
  rw [a2] at kx x103 xn x3 x4
  rw [a4] at x3 wr
  rw [a5] at x4 tr
  have xy : x ≠ y := qkne kx ky (by decide)
  have xg : x ≠ g := qkne kx kg (by decide)
  have Pm : P ≤ qmp t := by
    obtain ⟨J, fL, fE, fA, fU, fM, P', ll, w0, -⟩ := hBB b b1 b2
    obtain ⟨Pr, x9, -⟩ := qB0_P w0 (by rw [a4]; exact wr.1) (by rw [a5]; exact tr)
    rw [a2, a6] at x9
    rw [a5] at Pr
    omega
  obtain ⟨A, hA⟩ : ∃ A, qu (qu (zm S) g 3 (z32 (zm S g 3 + v))) g 2 (zm S g 2 - 1) = A := ⟨_, rfl⟩
  have i2 : qu (zm S) g 3 (z32 (zm S g 3 + v)) g 2 = zm S g 2 := qu_i _ _ _ _ _ (by decide)
  have z2 : z32 (zm S g 2 - 1) = zm S g 2 - 1 := q32 (by omega)
  obtain ⟨B, hB⟩ : ∃ B, qu (qu A y 6 (-1)) y 7 (-1) = B := ⟨_, rfl⟩
  have ch : zD e 46 [vr y] (qW S A) = some (.inl none, qW S B) := by
    obtain ⟨f, rfl, -⟩ := qd (show 1 ≤ e by omega)
    rw [← hB]
    simp (config := { maxSteps := 2000000 }) (disch := first | omega | (simp only [ky, qb_in, qkW, qmW, qnW, true_and, and_true, or_self, true_or, or_true, and_self]; done) | (simp only [ky, qb_in, qkW, qmW, qnW, true_and, and_true, or_self, true_or, or_true, and_self]; omega)) only [zD_46, b46_0, qcall_l, qcall_r, qretn_l, qJ_s, qJ_n, qV0, qEx, ↓qif0, ↓zchk_pos, ↓reduceIte, qput, qWW, qmW, qkW, qnW, ky]
  have Ag : ∀ j, A g j = if j = 2 then zm S g 2 - 1 else if j = 3 then z32 (zm S g 3 + v) else zm S g j := fun j => by rw [← hA, qu_row, qu_row]
  have Bo : ∀ z, z ≠ g → z ≠ y → B z = zm S z := fun z z1 z2 => by rw [← hB, qu_o _ _ _ _ _ z2, qu_o _ _ _ _ _ z2, ← hA, qu_o _ _ _ _ _ z1, qu_o _ _ _ _ _ z1]
  have Bg : B g = A g := by rw [← hB, qu_o _ _ _ _ _ (Ne.symm yg), qu_o _ _ _ _ _ (Ne.symm yg)]
  have Ay : A y = zm S y := by rw [← hA, qu_o _ _ _ _ _ yg, qu_o _ _ _ _ _ yg]
  have By : ∀ j, B y j = if j = 7 then -1 else if j = 6 then -1 else zm S y j := fun j => by rw [← hB, qu_row, qu_row, Ay]
  have lo : ∀ z, z < 103 → B z = zm S z := fun z hz => Bo z (by omega) (by omega)
  have nlt : ¬ hu < -1 := by omega
  have hn1 : ¬ h = -1 := by omega
  have huP : hu < P := by omega
  have y4B : zm S y 4 = qhp (zm S) k 160 := y4
  by_cases c1 : hu = -1
  · refine ⟨B, ?_, fun j => by rw [Bg, Ag], fun j _ => By j, ?_, fun p p1 p2 => ?_, fun i hi => ?_, fun z z1 z2 _ _ => Bo z z1 z2⟩
    · clear e1 e2 e3 e4
      simp (config := { maxSteps := 2000000 }) (disch := first | omega | (simp only [K_3 hK, ky, y3, ky2, kg, qb_in, qkW, qmW, qnW, true_and, and_true, or_self, true_or, or_true, and_self]; done) | (simp only [K_3 hK, ky, y3, ky2, kg, qb_in, qkW, qmW, qnW, true_and, and_true, or_self, true_or, or_true, and_self]; omega)) only [zD_148, b148_0, b148_5, b148_11, b148_20, b148_31, b148_39, b148_50, b148_58, b148_68, b148_88, b148_97, b148_102, b148_107, qcall_l, qcall_r, qretn_l, qJ_s, qJ_n, qV0, qEx, ↓qif0, ↓zchk_pos, ↓reduceIte, qput, qWW, qmW, qkW, qnW, K_3 hK, co, if_neg nlt, ky, y3, ky2, if_pos huP, y6, if_neg hn1, d13, dl, ro, kg, i2, z2, hA, ch, if_pos c1, Int.reduceEq, Int.reduceLE]
    · rw [By, if_neg (by decide), if_neg (by decide), y4]
      unfold qhu
      rw [if_pos c1]
    · rw [Bo _ y2g (by omega), e1 p p1 p2, qhu_r, if_neg fun q => q.1 c1]
    · rw [Bo _ y1g (by omega), e4 i hi, qhu_r, if_neg (show ¬ (¬ hu = -1 ∧ 160 * k + (i : Int) / (t * w) = 160 * k + hu) from fun q => q.1 c1)]
  · have hu0 : 0 ≤ hu ∧ hu < P := hhu.resolve_left c1
    have qB : qCq (qW S B) k b x y w t P := qCq_w hq0 (qKp_w S B) (by show B 82 k = _; rw [lo 82 (by decide)]) (by show B 8 b = _; rw [lo 8 (by decide)]) (by show B 13 k = _; rw [lo 13 (by decide)]) (by show B 51 b = _; rw [lo 51 (by decide)]) (by show B 52 b = _; rw [lo 52 (by decide)]) (by show B 54 b = _; rw [lo 54 (by decide)]) (by show _ ≤ B 37 16; rw [lo 37 (by decide)]; exact Int.le_refl _) (fun p _ _ => by show B 85 _ = _; rw [lo 85 (by decide)]) (fun q _ _ => by show B 83 _ = _; rw [lo 83 (by decide)]) (by show B x 9 = _; rw [Bo x xg xy]) (Bo _ (qkne (T := S) (x := x + 2) (p := (3, qbl w t)) (by have := (hY.2.1 b b1 b2).1.2.2.1; rw [a2, a4, a5] at this; exact this) kg (by simp)) (qkne (T := S) (x := x + 2) (p := (3, qbl w t)) (by have := (hY.2.1 b b1 b2).1.2.2.1; rw [a2, a4, a5] at this; exact this) ky (by simp))) (fun j hj => by show B y j = _; rw [By, if_neg (by omega), if_neg (by omega)]) (Bo _ y1g (by omega)) (Bo _ y2g (by omega)) (by show B 84 k = _; rw [lo 84 (by decide)])
    obtain ⟨C, rC, C2, C4, Cy, C1, Co⟩ := s_hurtPage e (qW S B) k b x y w t P hu (by omega) qB kx (by show B x 3 = w; rw [Bo x xg xy, x3]) (by show B x 4 = t; rw [Bo x xg xy, x4]) (by show B y 1 = x; rw [By, if_neg (by decide), if_neg (by decide), y1]) wr tr Pm hu0
    have rC : zD e 47 [vr y, vi hu] (qW S B) = some (.inl none, qW S C) := rC
    have C2 : ∀ p, C (y + 2) p = if p = hu then 1 else B (y + 2) p := C2
    have Cy : ∀ j, j ≠ 4 → C y j = B y j := Cy
    have C1 : ∀ i : Nat, (i : Int) < P * (t * w) → C (y + 1) i = if (i : Int) / (t * w) = hu then 0 else B (y + 1) i := C1
    have Co : ∀ z, z ≠ y → z ≠ y + 1 → z ≠ y + 2 → C z = B z := Co
    have C4 : C y 4 = qhp (qu B 85 (160 * k + hu) 1) k 160 := C4
    refine ⟨C, ?_, fun j => by rw [Co g (Ne.symm yg) (Ne.symm y1g) (Ne.symm y2g), Bg, Ag], fun j hj => by rw [Cy j hj, By], ?_, fun p p1 p2 => ?_, fun i hi => ?_, fun z z1 z2 z3 z4 => by rw [Co z z2 z3 z4, Bo z z1 z2]⟩
    · clear e1 e2 e3 e4 qB
      simp (config := { maxSteps := 2000000 }) (disch := first | omega | (simp only [K_3 hK, ky, y3, ky2, kg, qb_in, qkW, qmW, qnW, true_and, and_true, or_self, true_or, or_true, and_self]; done) | (simp only [K_3 hK, ky, y3, ky2, kg, qb_in, qkW, qmW, qnW, true_and, and_true, or_self, true_or, or_true, and_self]; omega)) only [zD_148, b148_0, b148_5, b148_11, b148_20, b148_31, b148_39, b148_50, b148_58, b148_68, b148_88, b148_97, b148_102, b148_107, qcall_l, qcall_r, qretn_l, qJ_s, qJ_n, qV0, qEx, ↓qif0, ↓zchk_pos, ↓reduceIte, qput, qWW, qmW, qkW, qnW, K_3 hK, co, if_neg nlt, ky, y3, ky2, if_pos huP, y6, if_neg hn1, d13, dl, ro, kg, i2, z2, hA, ch, if_neg c1, rC, Int.reduceEq, Int.reduceLE]
    · rw [C4]
      unfold qhu
      rw [if_neg c1]
      exact qhp_e k 160 fun p _ => by rw [qu_row, qu_row, lo 85 (by decide)]
    · rw [C2, qhu_r]
      by_cases c : p = hu
      · rw [if_pos c, if_pos ⟨c1, by omega⟩]
      · rw [if_neg c, if_neg (by omega), Bo _ y2g (by omega), e1 p p1 p2]
    · rw [C1 i hi, qhu_r]
      by_cases c : (i : Int) / (t * w) = hu
      · rw [if_pos c, if_pos (show ¬ hu = -1 ∧ 160 * k + (i : Int) / (t * w) = 160 * k + hu from ⟨c1, by omega⟩), if_neg (show ¬ (1 : Int) = 0 by decide)]
      · rw [if_neg c, if_neg (show ¬ (¬ hu = -1 ∧ 160 * k + (i : Int) / (t * w) = 160 * k + hu) by omega), Bo _ y1g (by omega), e4 i hi]
/-- what is known behind it -/
theorem q_give_T {S : zS} {T : Int → Int → Int} {k hu h v b x y g w t P : Int} (hH : qHC S) (hk : 0 ≤ k ∧ k < zm S 37 65) (hq : qCq S k b x y w t P) (h86 : zm S 86 k = h) (h0 : 0 ≤ h ∧ h < zm S 37 76) (hg : zm S 14 h = g) (hhu : hu = -1 ∨ (0 ≤ hu ∧ hu < P)) 
    (T92 : ∀ i, T 92 i = if i = h then z32 (zm S 92 h + v) else zm S 92 i) (T86 : ∀ i, T 86 i = if i = k then -1 else zm S 86 i) (T87 : ∀ i, T 87 i = if i = k then -1 else zm S 87 i) (T85 : ∀ i, T 85 i = qhu (zm S) k hu 85 i)
    (Tg : ∀ j, T g j = if j = 2 then zm S g 2 - 1 else if j = 3 then z32 (zm S g 3 + v) else zm S g j) (Ty : ∀ j, j ≠ 4 → T y j = if j = 7 then -1 else if j = 6 then -1 else zm S y j) (T4 : T y 4 = qhp (qhu (zm S) k hu) k 160)
    (T2 : ∀ p, 0 ≤ p → p < P → T (y + 2) p = qhu (zm S) k hu 85 (160 * k + p)) (T1 : ∀ i : Nat, (i : Int) < P * (t * w) → T (y + 1) i = if qhu (zm S) k hu 85 (160 * k + i / (t * w)) = 0 then qfwx (zm S (x + 2)) (fun q => zm S 83 (6 * k + q)) 6 i else 0)
    (To : ∀ z, z ≠ g → z ≠ y → z ≠ y + 1 → z ≠ y + 2 → z ≠ 92 → z ≠ 86 → z ≠ 87 → z ≠ 85 → z ≠ 102 → T z = zm S z) : qHC (qW S T) := by
  obtain ⟨⟨⟨⟨hK, hP, hL, hn⟩, -, ⟨p1, p2, p3, p4, p5, p6⟩, hY⟩, hBB⟩, hYC, hFc⟩ := id hH
  have hq0 := hq
  obtain ⟨⟨a1, a2, a3, a4, a5, a6⟩, ⟨b1, b2, b3, b4, b5, b6⟩, ⟨ky, ky1, ky2, y103, yn⟩, ⟨y2, y3, y4⟩, e1, e2, e3, e4, e5⟩ := hq
  obtain ⟨⟨kg, kg1, g103, gn, g1⟩, g0, -, g3, g4, -⟩ := p5.2.1 h h0.1 h0.2
  have lt := p6 h h0.1 h0.2
  rw [hg] at kg kg1 g103 gn g1 g0 g3 lt
  have n65 := p4.1.2
  have n76 := p5.1.2
  have yg : y ≠ g := qkne ky kg (by decide)
  have y1g : y + 1 ≠ g := qkne ky1 kg (by simp)
  have y2g : y + 2 ≠ g := qkne ky2 kg (by simp)
  have nky := qknn ky
  have nky1 := qknn ky1
  have nky2 := qknn ky2
  have nkg := qknn kg
  have lo : ∀ z, z < 103 → z ≠ 92 → z ≠ 86 → z ≠ 87 → z ≠ 85 → z ≠ 102 → T z = zm S z := fun z hz z1 z2 z3 z4 z5 => To z (by omega) (by omega) (by omega) (by omega) z1 z2 z3 z4 z5
  have l37 : T 37 = zm S 37 := lo 37 (by decide) (by decide) (by decide) (by decide) (by decide) (by decide)
  have hi : ∀ z a c, 103 ≤ z → zk S z = (a, c) → a ≠ 24 → a ≠ 27 → a ≠ 3 → a ≠ 4 → T z = zm S z := fun z a c hz kz z1 z2 z3 z4 => by
    have nz := qknn kz
    exact To z (fun q => by rw [q] at nz; omega) (fun q => by rw [q] at nz; omega) (fun q => by rw [q] at nz; omega) (fun q => by rw [q] at nz; omega) (by omega) (by omega) (by omega) (by omega) (by omega)
  have other : ∀ i, 0 ≤ i → i < zm S 37 65 → i ≠ k → T (zm S 13 i) = zm S (zm S 13 i) := fun i i1 i2 ne => by
    obtain ⟨⟨ki, i103, -⟩, -⟩ := p4.2.1 i i1 i2
    have nk := qknn ki
    have n13 : zm S 13 i ≠ y := by
      rw [← a3]
      rcases Int.lt_or_gt_of_ne ne with q | q
      · exact p4.2.2 i k i1 q hk.2
      · exact Ne.symm (p4.2.2 k i hk.1 q i2)
    exact To _ (fun q => by rw [q] at nk; omega) n13 (fun q => by rw [q] at nk; omega) (fun q => by rw [q] at nk; omega) (by omega) (by omega) (by omega) (by omega) (by omega)
  have rdr : ∀ i, 0 ≤ i → i < zm S 37 76 → i ≠ h → T (zm S 14 i) = zm S (zm S 14 i) := fun i i1 i2 ne => by
    obtain ⟨⟨ki, -, i103, -⟩, -⟩ := p5.2.1 i i1 i2
    have nk := qknn ki
    have n14 : zm S 14 i ≠ g := by
      rw [← hg]
      rcases Int.lt_or_gt_of_ne ne with q | q
      · exact p5.2.2.1 i h i1 q h0.2
      · exact Ne.symm (p5.2.2.1 h i h0.1 q i2)
    exact To _ n14 (fun q => by rw [q] at nk; omega) (fun q => by rw [q] at nk; omega) (fun q => by rw [q] at nk; omega) (by omega) (by omega) (by omega) (by omega) (by omega)
  have l13 : T 13 = zm S 13 := lo 13 (by decide) (by decide) (by decide) (by decide) (by decide) (by decide)
  have l14 : T 14 = zm S 14 := lo 14 (by decide) (by decide) (by decide) (by decide) (by decide) (by decide)
  have l82 : T 82 = zm S 82 := lo 82 (by decide) (by decide) (by decide) (by decide) (by decide) (by decide)
  have l8 : T 8 = zm S 8 := lo 8 (by decide) (by decide) (by decide) (by decide) (by decide) (by decide)
  have l3 : T 3 = zm S 3 := lo 3 (by decide) (by decide) (by decide) (by decide) (by decide) (by decide)
  have l84 : T 84 = zm S 84 := lo 84 (by decide) (by decide) (by decide) (by decide) (by decide) (by decide)
  have l88 : T 88 = zm S 88 := lo 88 (by decide) (by decide) (by decide) (by decide) (by decide) (by decide)
  have l90 : T 90 = zm S 90 := lo 90 (by decide) (by decide) (by decide) (by decide) (by decide) (by decide)
  have l91 : T 91 = zm S 91 := lo 91 (by decide) (by decide) (by decide) (by decide) (by decide) (by decide)
  have l51 : T 51 = zm S 51 := lo 51 (by decide) (by decide) (by decide) (by decide) (by decide) (by decide)
  have l52 : T 52 = zm S 52 := lo 52 (by decide) (by decide) (by decide) (by decide) (by decide) (by decide)
  have l53 : T 53 = zm S 53 := lo 53 (by decide) (by decide) (by decide) (by decide) (by decide) (by decide)
  have l54 : T 54 = zm S 54 := lo 54 (by decide) (by decide) (by decide) (by decide) (by decide) (by decide)
  have l83 : T 83 = zm S 83 := lo 83 (by decide) (by decide) (by decide) (by decide) (by decide) (by decide)
  have bk : ∀ c, 0 ≤ c → c < zm S 37 16 → T (zm S 8 c) = zm S (zm S 8 c) ∧ T (zm S 8 c + 2) = zm S (zm S 8 c + 2) := fun c c1 c2 => by
    obtain ⟨⟨f1, f2, f3, f4, f5⟩, -⟩ := hY.2.1 c c1 c2
    have n1 := qknn f1
    have n2 := qknn f2
    have n3 := qknn f3
    refine ⟨hi _ _ _ f4 f1 (by decide) (by decide) (by decide) (by decide), To _ (fun q => by rw [q] at n3; omega) (fun q => by rw [q] at n3; omega) (fun q => ?_) (fun q => by rw [q] at n3; omega) (by omega) (by omega) (by omega) (by omega) (by omega)⟩
    rw [show zm S 8 c + 1 = y by omega] at n2
    omega
  refine qk_give hH (qAg_w fun z j hz => ?_) ⟨?_, fun i i1 i2 => ?_, fun i c i1 i2 c2 => ?_⟩ ⟨?_, fun i i1 i2 => ?_, fun i c i1 i2 c2 => ?_, fun i i1 i2 => ?_⟩ (fun i i1 i2 => ?_) ⟨fun c c1 c2 => ?_, fun i i1 i2 => ?_, ?_, fun i i1 i2 => ?_, fun i i1 i2 => ?_⟩
  · unfold qEk_give at hz
    by_cases z1 : z = g
    · subst z1
      rw [Tg, if_neg (by omega), if_neg (by omega)]
    · by_cases z2 : z = y
      · subst z2
        rw [Ty j (by omega), if_neg (by omega), if_neg (by omega)]
      · refine congrFun (To z z1 z2 (fun q => hz ?_) (fun q => hz ?_) (by omega) (by omega) (by omega) (by omega) (by omega)) j
        · rw [q, show y + 1 - 1 = y by omega]; omega
        · rw [q]; omega
  · show T 3 9 = T 37 65 ∧ 0 ≤ T 37 65 ∧ T 37 65 ≤ 20
    rw [l3, l37]
    exact p4.1
  · have i2 : i < T 37 65 := i2
    rw [l37] at i2
    obtain ⟨q1, q2, q3, q4, q5, q6, q7, q8, q9⟩ := p4.2.1 i i1 i2
    show (zk S (T 13 i) = (24, 0) ∧ 103 ≤ T 13 i ∧ T 13 i < zn S) ∧ T (T 13 i) 0 = T 82 i ∧ (0 ≤ T 82 i ∧ T 82 i < T 37 16) ∧ T (T 13 i) 1 = T 8 (T 82 i) ∧ T (T 13 i) 5 = T 84 i ∧ T (T 13 i) 6 = T 86 i ∧ T (T 13 i) 7 = T 87 i ∧ T (T 13 i) 8 = T 88 i ∧ (T 86 i = -1 ∧ T 87 i = -1 ∨ (0 ≤ T 86 i ∧ T 86 i < T 37 76) ∧ (0 ≤ T 87 i ∧ T 87 i ≤ 1020))
    rw [l13, l82, l8, l84, l88, l37, T86, T87]
    by_cases c : i = k
    · subst c
      rw [a3] at q1 q2 q4 q5 q6 q7 q8 ⊢
      rw [if_pos rfl, if_pos rfl, Ty 0 (by decide), Ty 1 (by decide), Ty 5 (by decide), Ty 6 (by decide), Ty 7 (by decide), Ty 8 (by decide), if_neg (by decide), if_neg (by decide), if_neg (by decide), if_neg (by decide), if_neg (by decide), if_neg (by decide), if_neg (by decide), if_pos rfl, if_pos rfl, if_neg (by decide), if_neg (by decide)]
      exact ⟨q1, q2, q3, q4, q5, rfl, rfl, q8, Or.inl ⟨rfl, rfl⟩⟩
    · rw [if_neg c, if_neg c, other i i1 i2 c]
      exact ⟨q1, q2, q3, q4, q5, q6, q7, q8, q9⟩
  · have c2 : c < T 37 65 := c2
    rw [l37] at c2
    show T 13 i ≠ T 13 c
    rw [l13]
    exact p4.2.2 i c i1 i2 c2
  · show T 3 11 = T 37 76 ∧ 0 ≤ T 37 76 ∧ T 37 76 ≤ 6
    rw [l3, l37]
    exact p5.1
  · have i2 : i < T 37 76 := i2
    rw [l37] at i2
    obtain ⟨q1, q2, q3, q4, q5, q6⟩ := p5.2.1 i i1 i2
    show (zk S (T 14 i) = (27, 0) ∧ zk S (T 14 i + 1) = (0, 3) ∧ 103 ≤ T 14 i ∧ T 14 i + 2 ≤ zn S ∧ T (T 14 i) 1 = T 14 i + 1) ∧ T (T 14 i) 0 = T 90 i ∧ (0 ≤ T 90 i ∧ T 90 i ≤ 2) ∧ T (T 14 i) 3 = T 92 i ∧ (-2147483648 ≤ T 92 i ∧ T 92 i < 2147483648) ∧ (∀ c, 0 ≤ c → c < 3 → T (T 14 i + 1) c = T 91 (3 * i + c) ∧ 0 ≤ T 91 (3 * i + c) ∧ T 91 (3 * i + c) < 16777216)
    have n1 := qknn q1.2.1
    have r1 : T (zm S 14 i + 1) = zm S (zm S 14 i + 1) := hi _ _ _ (by omega) q1.2.1 (by decide) (by decide) (by decide) (by decide)
    rw [l14, l90, l91, T92, r1]
    by_cases c : i = h
    · subst c
      rw [hg] at q1 q2 q4 q6 ⊢
      rw [if_pos rfl, Tg, Tg, Tg, if_neg (by decide), if_neg (by decide), if_neg (by decide), if_neg (by decide), if_neg (by decide), if_pos rfl, q4]
      exact ⟨q1, q2, q3, rfl, z32_in _, q6⟩
    · rw [if_neg c, rdr i i1 i2 c]
      exact ⟨q1, q2, q3, q4, q5, q6⟩
  · have c2 : c < T 37 76 := c2
    rw [l37] at c2
    show T 14 i ≠ T 14 c
    rw [l14]
    exact p5.2.2.1 i c i1 i2 c2
  · have i1 : T 37 76 ≤ i := i1
    rw [l37] at i1
    show T 92 i = 0 ∧ ∀ c, 0 ≤ c → c < 3 → T 91 (3 * i + c) = 0
    rw [T92, l91, if_neg (by omega)]
    exact p5.2.2.2 i i1 i2
  · have i2 : i < T 37 76 := i2
    rw [l37] at i2
    show T (T 14 i) 2 = qhl T i (-1) (T 37 65).toNat
    have q := p6 i i1 i2
    rw [qhl_v] at q ⊢
    have u := qcv_u (f := T 86) (g := zm S 86) (x := k) (v := h) (b := i) (by rw [T86, if_pos rfl]; omega) h86 (fun j hj => by rw [T86, if_neg hj]) hk.1 (zm S 37 65).toNat
    rw [l14, l37]
    by_cases c : i = h
    · subst c
      rw [if_pos ⟨rfl, by omega⟩] at u
      rw [hg] at q ⊢
      rw [Tg, if_pos rfl, q, u]
      omega
    · rw [if_neg (fun q => c q.1.symm), Int.add_zero] at u
      rw [rdr i i1 i2 c, q, u]
  · have c2 : c < T 37 16 := c2
    rw [l37] at c2
    show T (T 8 c) 13 = qbn T c (T 37 65).toNat
    rw [l8, (bk c c1 c2).1, l37, qbn_e l82]
    exact hYC.1 c c1 c2
  · have i2 : i < T 37 65 := i2
    rw [l37] at i2
    by_cases c : i = k
    · subst c
      obtain ⟨bk1, bk2⟩ := bk b b1 b2
      rw [a2] at bk1 bk2
      refine ⟨b, x, y, w, t, P, ⟨?_, ?_, ?_, ?_, ?_, ?_⟩, ⟨b1, ?_, ?_, b4, b5, b6⟩, ⟨ky, ky1, ky2, y103, yn⟩, ⟨?_, ?_, ?_⟩, fun p p1 p2 => ?_, fun p p1 p2 => ?_, fun p p1 p2 => ?_, fun j hj => ?_, fun z q q1 q2 => ?_⟩
      · show T 82 i = b; rw [l82, a1]
      · show T 8 b = x; rw [l8, a2]
      · show T 13 i = y; rw [l13, a3]
      · show T 51 b = w; rw [l51, a4]
      · show T 52 b = t; rw [l52, a5]
      · show T x 9 = P; rw [bk1, a6]
      · show b < T 37 16; rw [l37]; exact b2
      · show 0 < T 54 b; rw [l54]; exact b3
      · show T y 2 = y + 1; rw [Ty 2 (by decide), if_neg (by decide), if_neg (by decide), y2]
      · show T y 3 = y + 2; rw [Ty 3 (by decide), if_neg (by decide), if_neg (by decide), y3]
      · show T y 4 = qhp T i 160
        rw [T4]
        exact (qhp_e i 160 fun p _ => T85 _).symm
      · show T (y + 2) p = T 85 (160 * i + p)
        rw [T2 p p1 p2, T85]
      · show (0 ≤ T 85 (160 * i + p) ∧ T 85 (160 * i + p) ≤ 1) ∧ (p < 6 → 0 ≤ T 83 (6 * i + p) ∧ T 83 (6 * i + p) ≤ 100000)
        rw [T85, qhu_r, l83]
        refine ⟨?_, (e2 p p1 p2).2⟩
        split
        · decide
        · exact (e2 p p1 p2).1
      · show T 85 (160 * i + p) = 0
        rw [T85, qhu_r, if_neg (by omega)]
        exact e3 p p1 p2
      · show T (y + 1) j = if T 85 (160 * i + j / (t * w)) = 0 then qfwx (T (x + 2)) (fun q => T 83 (6 * i + q)) 6 j else 0
        rw [T1 j hj, T85, bk2, l83]
      · show qsb (T (x + 2)) q (P * (t * w)).toNat ≤ T 83 (6 * i + q)
        have z : T 84 i = 0 := z
        rw [lo 84 (by decide) (by decide) (by decide) (by decide) (by decide) (by decide)] at z
        rw [bk2, l83]
        exact e5 z q q1 q2
    · obtain ⟨b', x', y', w', t', P', q⟩ := hYC.2.1 i i1 i2
      have q0 := q
      obtain ⟨⟨f1, f2, f3, f4, f5, f6⟩, ⟨g1, g2, g3, g4, g5, g6⟩, ⟨h1, h2, h3, h4, h5⟩, -⟩ := q
      obtain ⟨bk1, bk2⟩ := bk b' g1 g2
      rw [f2] at bk1 bk2
      have m1 := qknn h1
      have m2 := qknn h2
      have m3 := qknn h3
      have oy := other i i1 i2 c
      rw [f3] at oy
      have yy : y' ≠ y := by
        rw [← f3, ← a3]
        rcases Int.lt_or_gt_of_ne c with q | q
        · exact p4.2.2 i k i1 q hk.2
        · exact Ne.symm (p4.2.2 k i hk.1 q i2)
      refine ⟨b', x', y', w', t', P', qCq_w q0 (qKp_w S T) (by show T 82 i = _; rw [l82]) (by show T 8 b' = _; rw [l8]) (by show T 13 i = _; rw [l13]) (by show T 51 b' = _; rw [l51]) (by show T 52 b' = _; rw [l52]) (by show T 54 b' = _; rw [l54]) (by show _ ≤ T 37 16; rw [l37]; exact Int.le_refl _) (fun p p1 p2 => by show T 85 _ = _; rw [T85, qhu_r, if_neg (by omega)]) (fun q _ _ => by show T 83 _ = _; rw [l83]) (by show T x' 9 = _; rw [bk1]) bk2 (fun j _ => by show T y' j = _; rw [oy]) ?_ ?_ (by show T 84 i = _; rw [lo 84 (by decide) (by decide) (by decide) (by decide) (by decide) (by decide)])⟩
      · exact To _ (fun q => by rw [q] at m2; omega) (fun q => by rw [q] at m2; omega) (fun q => yy (by omega)) (fun q => by rw [q] at m2; omega) (by omega) (by omega) (by omega) (by omega) (by omega)
      · exact To _ (fun q => by rw [q] at m3; omega) (fun q => by rw [q] at m3; omega) (fun q => by rw [q] at m3; omega) (fun q => yy (by omega)) (by omega) (by omega) (by omega) (by omega) (by omega)
  · show T 37 73 = qst_ T (T 37 65).toNat
    rw [l37, hYC.2.2.1]
    refine (qst_e _ fun i hi => ?_).symm
    have hb := (p4.2.1 i (Int.natCast_nonneg i) (by omega)).2.2.1
    unfold qsh
    rw [l82, l53, l8, (bk _ hb.1 hb.2).1]
  · have i1 : 160 * T 37 65 ≤ i := i1
    rw [l37] at i1
    show T 85 i = 0
    rw [T85, qhu_r, if_neg (by omega)]
    exact hYC.2.2.2.1 i i1 i2
  · have i1 : T 37 65 ≤ i := i1
    rw [l37] at i1
    show T 88 i = 0
    rw [l88]
    exact hYC.2.2.2.2 i i1 i2
