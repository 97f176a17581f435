/-! What each call that changes a house leaves, and what lies laid out. -/
theorem qF5_ {S : zS} (hC : qRC S) {m : Int → Int → Int} (f : qFq S m) : q50 S m := Or.inl (f 37 50 (qns hC (by decide) (by unfold qscf; omega)))
theorem q5_fx {S : zS} (hH : qHC S) {m2 : Int → Int → Int} (f : qFq S m2) : qG5 S (zbump (qW S m2)) := q5_x hH (qFx_q f) (qHC_f hH f) (qF5_ hH.1.1.2.1.2.1 f)
theorem q5_ff {S : zS} (hH : qHC S) {m2 : Int → Int → Int} (f : qFq S m2) : qG5 S (qW S m2) := q5_f hH (qFx_q f) (qHC_f hH f) (qF5_ hH.1.1.2.1.2.1 f)
theorem q5_0 {S : zS} (hH : qHC S) (v : Int) : qG5 S (zbump (qW S (qu (zm S) 37 0 v))) := q5_fx hH (qFq_0 S v)
theorem q5_g {S S2 : zS} (h : qGo S S2) (e5 : zm S2 37 50 = zm S 37 50) (e1 : zm S2 37 16 = zm S 37 16) : qG5 S S2 := ⟨h, Or.inl e5, Int.le_of_eq e1.symm⟩
theorem q5_type {S : zS} (hH : qHC S) {m2 : Int → Int → Int} (q : qFtp S m2 ∧ qRT (qW S m2)) : qG5 S (qW S m2) := q5_g (qg_type hH q) (q.1 37 50 (by omega)) (q.1 37 16 (by omega))
theorem q5_code {S S2 : zS} (hH : qHC S) (x : zm S2 37 4 = zm S 37 4 + 1 ∧ ∀ i, 0 ≤ i → i < zm S 37 4 → zm S2 6 i = zm S 6 i) (c : qRC S2) (g : qGw S S2 5 5 61 fun x j => x = 102 ∨ x = 3 ∧ j = 2 ∨ x = 6 ∨ x = 37 ∧ (j = 0 ∨ j = 4)) : qG5 S S2 := by
  have hn := hH.1.1.1.2.2.2
  exact q5_g (qg_code hH x c g) (g.2.2.2.2 37 50 (by omega) (by omega)) (g.2.2.2.2 37 16 (by omega) (by omega))
theorem q5_contr {S S2 : zS} {c : Int} (hH : qHC S) (x : (∀ c' N T, c' ≠ c → qTok T N → qRc (zm S) c' N T → qRc (zm S2) c' N T) ∧ qhwf (zm S) c (zm S 37 16).toNat = 0) (rc : qRC S2) (rt : qRT S2) (g : qGw S S2 2 2 12 fun x j => x = 102 ∨ x = 4 ∧ j = 1 ∨ 39 ≤ x ∧ x ≤ 45 ∨ x = 37 ∧ (j = 0 ∨ j = 2) ∨ 103 ≤ x ∧ (zk S x = (22, 0) ∨ zk S x = (12, 24))) : qG5 S S2 := by
  have hn := hH.1.1.1.2.2.2
  exact q5_g (qg_contr hH x rc rt g) (g.2.2.2.2 37 50 (by omega) (by omega)) (g.2.2.2.2 37 16 (by omega) (by omega))
theorem q5_divis {S S2 : zS} (hH : qHC S) (x : zm S2 37 12 = zm S 37 12 + 1 ∧ (∀ k, 0 ≤ k → k < zm S 37 12 → zm S2 47 k = zm S 47 k ∧ zm S2 48 k = zm S 48 k) ∧ (∃ p L : Nat, zm S2 48 (zm S 37 12) = (p : Int) ∧ zm S2 47 (zm S 37 12) = (L : Int) ∧ qPk p L) ∧ qhwf (zm S) (-1) (zm S 37 16).toNat = 0) (rt : qRT S2) (rd : qRD S2) (g : qGw S S2 3 3 18 fun x j => x = 102 ∨ x = 3 ∧ j = 4 ∨ x = 4 ∧ j = 1 ∨ x = 7 ∨ 46 ≤ x ∧ x ≤ 48 ∨ x = 64 ∨ x = 37 ∧ (j = 0 ∨ j = 2 ∨ j = 12 ∨ j = 33 ∨ j = 36 ∨ j = 38)) : qG5 S S2 := by
  have hn := hH.1.1.1.2.2.2
  exact q5_g (qg_divis hH x rt rd g) (g.2.2.2.2 37 50 (by omega) (by omega)) (g.2.2.2.2 37 16 (by omega) (by omega))
theorem q5_divx {S S2 : zS} (hH : qHC S) (q : ∃ T m2, S2 = zbump (qW T m2) ∧ (T = S ∨ qGw S T 3 3 18 fun _ _ => False) ∧ qFq T m2) : qG5 S S2 := by
  have hn := hH.1.1.1.2.2.2
  have hg := qg_divx hH q
  obtain ⟨T, m2, rfl, h, f⟩ := q
  rcases h with rfl | ⟨g1, g2, g3, g4, g5⟩
  · exact q5_fx hH f
  · have HT : qHC T := qHC_nw hH ⟨⟨by omega, g4⟩, g5⟩
    refine q5_g hg ?_ ?_
    · show m2 37 50 = _
      rw [f 37 50 (qns HT.1.1.2.1.2.1 (by decide) (by unfold qscf; omega)), g5 37 50 (by omega) (fun q => q)]
    · show m2 37 16 = _
      rw [f 37 16 (qns HT.1.1.2.1.2.1 (by decide) (by unfold qscf; omega)), g5 37 16 (by omega) (fun q => q)]
theorem q5_renew {S : zS} (hH : qHC S) (c p t o : Int) (c0 : 0 ≤ c) (c3 : c < 3) (p0 : 0 ≤ p) (p6 : p < 6) (t1 : 1 ≤ t) (t2 : t ≤ 100000) : qG5 S (qW S (qu (qu (qu (qu (zm S) (10 + c) p t) 102 0 o) 37 0 0) 81 (6 * c + p) t)) := by
  have e : ∀ j, j ≠ 0 → qu (qu (qu (qu (zm S) (10 + c) p t) 102 0 o) 37 0 0) 81 (6 * c + p) t 37 j = zm S 37 j := fun j hj => by
    rw [qu_o _ _ _ _ _ (by decide), qu_i _ _ _ _ _ hj, qu_o _ _ _ _ _ (by decide), qu_o _ _ _ _ _ (by omega)]
  exact q5_g (qg_renew hH c p t o c0 c3 p0 p6 t1 t2) (e 50 (by decide)) (e 16 (by decide))
theorem q5_secret {S : zS} (hH : qHC S) (b t w o : Int) (b0 : 0 ≤ b) (b1 : b < zm S 37 16) (t0 : 0 ≤ t) (t1 : t ≤ 1000) (w0 : 0 ≤ w) (w1 : w ≤ 63) : qG5 S (qW S (qu (qu (qu (qu (qu (qu (zm S) (zm S 8 b) 14 t) (zm S 8 b) 15 w) 102 0 o) 37 0 0) 62 b t) 63 b w)) := by
  obtain ⟨M, hM⟩ : ∃ M, qu (qu (qu (qu (qu (qu (zm S) (zm S 8 b) 14 t) (zm S 8 b) 15 w) 102 0 o) 37 0 0) 62 b t) 63 b w = M := ⟨_, rfl⟩
  rw [hM]
  have hn := hH.1.1.1.2.2.2
  have hY := hH.1.1.2.2.2
  obtain ⟨⟨kx, -, -, x103, xn⟩, -⟩ := hY.2.1 b b0 b1
  obtain ⟨x, hx⟩ : ∃ x, zm S 8 b = x := ⟨_, rfl⟩
  rw [hx] at hM kx x103 xn
  have o1 : ∀ z, z ≠ x → z ≠ 102 → z ≠ 37 → z ≠ 62 → z ≠ 63 → M z = zm S z := fun z h1 h2 h3 h4 h5 => by rw [← hM, qu_o _ _ _ _ _ h5, qu_o _ _ _ _ _ h4, qu_o _ _ _ _ _ h3, qu_o _ _ _ _ _ h2, qu_o _ _ _ _ _ h1, qu_o _ _ _ _ _ h1]
  have o37 : ∀ j, j ≠ 0 → M 37 j = zm S 37 j := fun j hj => by rw [← hM, qu_o _ _ _ _ _ (by decide), qu_o _ _ _ _ _ (by decide), qu_i _ _ _ _ _ hj, qu_o _ _ _ _ _ (by decide), qu_o _ _ _ _ _ (by omega), qu_o _ _ _ _ _ (by omega)]
  have ox : ∀ j, M x j = if j = 15 then w else if j = 14 then t else zm S x j := fun j => by
    rw [← hM, qu_o _ _ _ _ _ (by omega), qu_o _ _ _ _ _ (by omega), qu_o _ _ _ _ _ (by omega), qu_o _ _ _ _ _ (by omega), qu_row]
    show (if j = 15 then w else qu (zm S) x 14 t x j) = _
    rw [qu_row]
  have o62 : ∀ i, M 62 i = if i = b then t else zm S 62 i := fun i => by
    rw [← hM, qu_o _ _ _ _ _ (by decide), qu_row]
    show (if i = b then t else qu (qu (qu (qu (zm S) x 14 t) x 15 w) 102 0 o) 37 0 0 62 i) = _
    rw [qu_o _ _ _ _ _ (by decide), qu_o _ _ _ _ _ (by decide), qu_o _ _ _ _ _ (by omega), qu_o _ _ _ _ _ (by omega)]
  have o63 : ∀ i, M 63 i = if i = b then w else zm S 63 i := fun i => by
    rw [← hM, qu_row]
    show (if i = b then w else qu (qu (qu (qu (qu (zm S) x 14 t) x 15 w) 102 0 o) 37 0 0) 62 b t 63 i) = _
    rw [qu_o _ _ _ _ _ (by decide), qu_o _ _ _ _ _ (by decide), qu_o _ _ _ _ _ (by decide), qu_o _ _ _ _ _ (by omega), qu_o _ _ _ _ _ (by omega)]
  have nkx := qknn kx
  have a : qAg S (qW S M) (qEk_secret S) := ⟨⟨Nat.le_refl _, fun _ _ => rfl⟩, fun z j _ he => by
    unfold qEk_secret at he
    show M z j = zm S z j
    by_cases q : z = 37
    · subst q
      exact o37 j (by omega)
    · by_cases q2 : z = x
      · subst q2
        rw [ox, if_neg (by omega), if_neg (by omega)]
      · rw [o1 z q2 (by omega) q (by omega) (by omega)]⟩
  have cYb : qYb (qW S M) := by
    obtain ⟨w0_, w1_, w2_, w3_⟩ := hY
    have e8 : M 8 = zm S 8 := o1 8 (by omega) (by decide) (by decide) (by decide) (by decide)
    have el : ∀ z, 49 ≤ z → z ≤ 54 → M z = zm S z := fun z z1 z2 => o1 z (by omega) (by omega) (by omega) (by omega) (by omega)
    have e6 : M 6 = zm S 6 := o1 6 (by omega) (by decide) (by decide) (by decide) (by decide)
    have e3 : M 3 = zm S 3 := o1 3 (by omega) (by decide) (by decide) (by decide) (by decide)
    refine ⟨⟨by show M 3 6 = M 37 16; rw [e3, o37 16 (by decide)]; exact w0_.1, by show 0 ≤ M 37 16; rw [o37 16 (by decide)]; exact w0_.2.1, by show M 37 16 ≤ 4; rw [o37 16 (by decide)]; exact w0_.2.2⟩, fun i i1 i2 => ?_, fun i k i1 i2 i3 => ?_, fun i i1 i2 => ?_⟩
    · have i2 : i < M 37 16 := i2
      rw [o37 16 (by decide)] at i2
      have hs := w1_ i i1 i2
      show qBs (qW S M) (M 8 i) i
      rw [e8]
      obtain ⟨k1, k2, k3, k4, k5, k6, k7, k8, k9, ⟨k10, k11⟩, k12, k13⟩ := hs
      have ej : ∀ j, j ≠ 14 → j ≠ 15 → M (zm S 8 i) j = zm S (zm S 8 i) j := fun j j1 j2 => by
        by_cases q : zm S 8 i = x
        · rw [q, ox, if_neg j2, if_neg j1]
        · have := k1.2.2.2.1
          rw [o1 _ q (by omega) (by omega) (by omega) (by omega)]
      refine ⟨⟨k1.1, k1.2.1, ?_, k1.2.2.2⟩, ?_, ?_, ?_, ?_, ?_, ?_, ?_, ?_, ?_, ?_⟩
      · show zk S _ = (3, qbl (M 51 i) (M 52 i))
        rw [el 51 (by decide) (by decide), el 52 (by decide) (by decide)]
        exact k1.2.2.1
      · show M _ 0 = M 49 i ∧ M _ 1 = M 6 (M 49 i) ∧ 0 ≤ M 49 i ∧ M 49 i < M 37 4
        rw [ej 0 (by decide) (by decide), ej 1 (by decide) (by decide), el 49 (by decide) (by decide), e6, o37 4 (by decide)]
        exact k2
      · show M _ 2 = M 50 i ∧ 0 ≤ M 50 i ∧ M 50 i ≤ 3
        rw [ej 2 (by decide) (by decide), el 50 (by decide) (by decide)]
        exact k3
      · show M _ 3 = M 51 i ∧ 18 ≤ M 51 i ∧ M 51 i ≤ 40
        rw [ej 3 (by decide) (by decide), el 51 (by decide) (by decide)]
        exact k4
      · show M _ 4 = M 52 i ∧ 3 ≤ M 52 i ∧ M 52 i ≤ 25
        rw [ej 4 (by decide) (by decide), el 52 (by decide) (by decide)]
        exact k5
      · show M _ 5 = M 53 i ∧ 0 ≤ M 53 i ∧ M 53 i ≤ 1
        rw [ej 5 (by decide) (by decide), el 53 (by decide) (by decide)]
        exact k6
      · show M _ 6 = _
        rw [ej 6 (by decide) (by decide)]
        exact k7
      · show M _ 7 = M 54 i ∧ 0 ≤ M 54 i ∧ M 54 i ≤ 80
        rw [ej 7 (by decide) (by decide), el 54 (by decide) (by decide)]
        exact k8
      · show M _ 8 = _
        rw [ej 8 (by decide) (by decide)]
        exact k9
      · show M (zm S 8 i) 14 = M 62 i ∧ 0 ≤ M 62 i ∧ M 62 i ≤ 1000
        rw [o62]
        by_cases q : i = b
        · rw [if_pos q, q, hx, ox, if_neg (by decide), if_pos rfl]
          exact ⟨rfl, t0, t1⟩
        · have nx : zm S 8 i ≠ x := fun e => by
            rcases Int.lt_or_gt_of_ne q with r | r
            · exact w2_ i b i1 r b1 (by rw [e, hx])
            · exact w2_ b i b0 r i2 (by rw [e, hx])
          have := k1.2.2.2.1
          rw [if_neg q, o1 _ nx (by omega) (by omega) (by omega) (by omega)]
          exact ⟨k10, k11⟩
      · show M (zm S 8 i) 15 = M 63 i ∧ 0 ≤ M 63 i ∧ M 63 i ≤ 63
        rw [o63]
        by_cases q : i = b
        · rw [if_pos q, q, hx, ox, if_pos rfl]
          exact ⟨rfl, w0, w1⟩
        · have nx : zm S 8 i ≠ x := fun e => by
            rcases Int.lt_or_gt_of_ne q with r | r
            · exact w2_ i b i1 r b1 (by rw [e, hx])
            · exact w2_ b i b0 r i2 (by rw [e, hx])
          have := k1.2.2.2.1
          rw [if_neg q, o1 _ nx (by omega) (by omega) (by omega) (by omega)]
          exact ⟨k12, k13⟩
    · have i3 : k < M 37 16 := i3
      rw [o37 16 (by decide)] at i3
      show M 8 i ≠ M 8 k
      rw [e8]
      exact w2_ i k i1 i2 i3
    · have i1 : M 37 16 ≤ i := i1
      rw [o37 16 (by decide)] at i1
      show M 54 i = 0 ∧ M 62 i = 0 ∧ M 63 i = 0
      rw [el 54 (by decide) (by decide), o62, o63, if_neg (by omega), if_neg (by omega)]
      exact w3_ i i1 i2
  exact q5_w (qk_secret hH a cYb) (o37 16 (by decide)) (o37 65 (by decide)) (Or.inl (o37 50 (by decide)))
