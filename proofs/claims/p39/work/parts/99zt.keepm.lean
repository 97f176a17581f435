/-! What is kept, in numbers. -/
theorem qknn {S : zS} {x : Int} {a : Nat} {b : Int} (h : zk S x = (a, b)) : (zk S x).1 = a ∧ (zk S x).2 = b := by rw [h]; exact ⟨rfl, rfl⟩
theorem qRT_m {S S' : zS} {E : Int → Int → Prop} (h : qRT S) (a : qAg S S' E) (hn : 103 ≤ (zn S : Int)) (he : ∀ x j, (x = 4 ∧ j = 1) ∨ x = 5 ∨ (x = 37 ∧ j = 2) ∨ x = 38 → ¬ E x j) : qRT S' := qRT_w h (a.2 4 1 (by omega) (he _ _ (by omega))) (qAg_r a (by omega) fun j => he _ _ (by omega)) (a.2 37 2 (by omega) (he _ _ (by omega))) (qAg_r a (by omega) fun j => he _ _ (by omega))
theorem qRC_m {S S' : zS} {E : Int → Int → Prop} (h : qRC S) (a : qAg S S' E) (hn : 103 ≤ (zn S : Int)) (he : ∀ x j, (x = 3 ∧ j = 2) ∨ (x = 37 ∧ j = 4) ∨ x = 6 ∨ (39 ≤ x ∧ x ≤ 45) ∨ (103 ≤ x ∧ ((zk S x).1 = 22 ∨ (zk S x).1 = 12 ∨ (zk S x).1 = 23 ∨ ((zk S x).1 = 0 ∧ (zk S x).2 = 6) ∨ ((zk S x).1 = 28 ∧ j = 0))) → ¬ E x j) : qRC S' := by
  refine qRC_w h a.1 (a.2 3 2 (by omega) (he _ _ (by omega))) (a.2 37 4 (by omega) (he _ _ (by omega))) (qAg_r a (by omega) fun j => he _ _ (by omega)) (fun x x1 x2 => qAg_r a (by omega) fun j => he _ _ (by omega)) (fun x x1 x2 x3 => qAg_r a x2 fun j => he _ _ ?_) fun x x1 x2 x3 => a.2 x 0 x2 (he _ _ ?_)
  · rcases x3 with q | q | q | q
    · have := qknn q; omega
    · have := qknn q; omega
    · have := qknn q; omega
    · have := qknn q; omega
  · have := qknn x3
    omega
theorem qRD_m {S S' : zS} {E : Int → Int → Prop} (h : qRD S) (a : qAg S S' E) (hn : 103 ≤ (zn S : Int)) (he : ∀ x j, (x = 3 ∧ j = 4) ∨ (x = 37 ∧ j = 12) ∨ x = 7 ∨ (46 ≤ x ∧ x ≤ 48) ∨ (103 ≤ x ∧ ((zk S x).1 = 25 ∨ ((zk S x).1 = 0 ∧ (zk S x).2 = 10) ∨ ((zk S x).1 = 0 ∧ (zk S x).2 = 4))) → ¬ E x j) : qRD S' := by
  refine qRD_w h a.1 (a.2 3 4 (by omega) (he _ _ (by omega))) (a.2 37 12 (by omega) (he _ _ (by omega))) (qAg_r a (by omega) fun j => he _ _ (by omega)) (qAg_r a (by omega) fun j => he _ _ (by omega)) (qAg_r a (by omega) fun j => he _ _ (by omega)) (qAg_r a (by omega) fun j => he _ _ (by omega)) fun k k1 k2 x x1 x2 => ?_
  obtain ⟨⟨q0, q1, q2, p0, p2, b1, b2⟩, -⟩ := h.2.2.1 k k1 k2
  refine qAg_r a (by omega) fun j => he _ _ ?_
  have hx : x = zm S 7 k ∨ x = zm S 7 k + 1 ∨ x = zm S 7 k + 2 := by omega
  rcases hx with rfl | rfl | rfl
  · have := qknn q0; omega
  · have := qknn q1; omega
  · have := qknn q2; omega
theorem qRK_m {S S' : zS} {E : Int → Int → Prop} (h : qRK S) (a : qAg S S' E) (hn : 103 ≤ (zn S : Int)) (he : ∀ x j, (x = 37 ∧ j = 12) ∨ (47 ≤ x ∧ x ≤ 48) → ¬ E x j) : qRK S' := fun k k1 k2 => by
  rw [a.2 37 12 (by omega) (he _ _ (by omega))] at k2
  rw [qAg_r a (x := 48) (by omega) fun j => he _ _ (by omega), qAg_r a (x := 47) (by omega) fun j => he _ _ (by omega)]
  exact h k k1 k2
theorem qLt_m {S S' : zS} {E : Int → Int → Prop} (h : qLt (zm S)) (a : qAg S S' E) (hn : 103 ≤ (zn S : Int)) (he : ∀ j, ¬ E 2 j) : qLt (zm S') := fun q hq => by
  rw [a.2 2 _ (by omega) (he _)]
  exact h q hq
theorem qPt_n : ∀ q ∈ qPt, (q.1 = 3 ∧ (q.2.1 = 0 ∨ q.2.1 = 1 ∨ q.2.1 = 3 ∨ q.2.1 = 5 ∨ q.2.1 = 7 ∨ q.2.1 = 8 ∨ q.2.1 = 10 ∨ q.2.1 = 12 ∨ (14 ≤ q.2.1 ∧ q.2.1 ≤ 17))) ∨ (q.1 = 4 ∧ q.2.1 = 0) ∨ q.1 = 9 ∨ (q.1 = 15 ∧ q.2.1 ≤ 1) ∨ (q.1 = 18 ∧ q.2.1 = 0) ∨ (q.1 = 20 ∧ (q.2.1 = 0 ∨ q.2.1 = 4)) ∨ ((q.1 = 23 ∨ q.1 = 30) ∧ (q.2.1 = 0 ∨ (4 ≤ q.2.1 ∧ q.2.1 ≤ 7) ∨ q.2.1 = 10)) ∨ (q.1 = 37 ∧ (q.2.1 = 1 ∨ (5 ≤ q.2.1 ∧ q.2.1 ≤ 11) ∨ (13 ≤ q.2.1 ∧ q.2.1 ≤ 15) ∨ (17 ≤ q.2.1 ∧ q.2.1 ≤ 31) ∨ q.2.1 = 35 ∨ q.2.1 = 39 ∨ q.2.1 = 41 ∨ q.2.1 = 44 ∨ (47 ≤ q.2.1 ∧ q.2.1 ≤ 49) ∨ q.2.1 = 52 ∨ (54 ≤ q.2.1 ∧ q.2.1 ≤ 62) ∨ q.2.1 = 64 ∨ (66 ≤ q.2.1 ∧ q.2.1 ≤ 72) ∨ q.2.1 = 74 ∨ (77 ≤ q.2.1 ∧ q.2.1 ≤ 79) ∨ q.2.1 = 81 ∨ q.2.1 = 82 ∨ (84 ≤ q.2.1 ∧ q.2.1 ≤ 87) ∨ q.2.1 = 89 ∨ q.2.1 = 91 ∨ q.2.1 = 93)) := by decide
theorem qP_m {S S' : zS} {E : Int → Int → Prop} (h : qP (zm S)) (a : qAg S S' E) (hn : 103 ≤ (zn S : Int)) (he : ∀ x j, (x = 3 ∧ (j = 0 ∨ j = 1 ∨ j = 3 ∨ j = 5 ∨ j = 7 ∨ j = 8 ∨ j = 10 ∨ j = 12 ∨ (14 ≤ j ∧ j ≤ 17))) ∨ (x = 4 ∧ j = 0) ∨ x = 9 ∨ (x = 15 ∧ j ≤ 1) ∨ (x = 18 ∧ j = 0) ∨ (x = 20 ∧ (j = 0 ∨ j = 4)) ∨ ((x = 23 ∨ x = 30) ∧ (j = 0 ∨ (4 ≤ j ∧ j ≤ 7) ∨ j = 10)) ∨ (x = 37 ∧ (j = 1 ∨ (5 ≤ j ∧ j ≤ 11) ∨ (13 ≤ j ∧ j ≤ 15) ∨ (17 ≤ j ∧ j ≤ 31) ∨ j = 35 ∨ j = 39 ∨ j = 41 ∨ j = 44 ∨ (47 ≤ j ∧ j ≤ 49) ∨ j = 52 ∨ (54 ≤ j ∧ j ≤ 62) ∨ j = 64 ∨ (66 ≤ j ∧ j ≤ 72) ∨ j = 74 ∨ (77 ≤ j ∧ j ≤ 79) ∨ j = 81 ∨ j = 82 ∨ (84 ≤ j ∧ j ≤ 87) ∨ j = 89 ∨ j = 91 ∨ j = 93)) → ¬ E x j) : qP (zm S') := h.same fun q hq => by
  have n := qPt_n q hq
  exact a.2 q.1 q.2.1 (by omega) (he _ _ n)
theorem qfP_n {S : zS} {x j : Int} (h : qfP S x j) : x = 13 ∨ x = 8 ∨ x = 82 ∨ x = 84 ∨ (86 ≤ x ∧ x ≤ 88) ∨ (x = 3 ∧ j = 9) ∨ (x = 37 ∧ j = 65) ∨ (103 ≤ x ∧ (zk S x).1 = 24) := by
  unfold qfP at h
  rcases h with q | q | q | q | q | q | q | ⟨q1, q2⟩
  · omega
  · omega
  · omega
  · omega
  · omega
  · omega
  · omega
  · have := qknn q2; omega
theorem qfR_n {S : zS} {x j : Int} (h : qfR S x j) : x = 14 ∨ (90 ≤ x ∧ x ≤ 92) ∨ (x = 3 ∧ j = 11) ∨ (x = 37 ∧ j = 76) ∨ (103 ≤ x ∧ (((zk S x).1 = 27 ∧ j ≠ 2) ∨ ((zk S x).1 = 0 ∧ (zk S x).2 = 3))) := by
  unfold qfR at h
  rcases h with q | q | q | q | ⟨q1, ⟨q2, q3⟩ | q2⟩
  · omega
  · omega
  · omega
  · omega
  · have := qknn q2; omega
  · have := qknn q2; omega
theorem qfH_n {S : zS} {x j : Int} (h : qfH S x j) : x = 14 ∨ x = 86 ∨ x = 82 ∨ (x = 37 ∧ (j = 76 ∨ j = 65)) ∨ (103 ≤ x ∧ (zk S x).1 = 27 ∧ j = 2) := by
  unfold qfH at h
  rcases h with q | q | q | q | ⟨q1, q2, q3⟩
  · omega
  · omega
  · omega
  · omega
  · have := qknn q2; omega
theorem qfB_n {S : zS} {x j : Int} (h : qfB S x j) : x = 8 ∨ (49 ≤ x ∧ x ≤ 54) ∨ x = 62 ∨ x = 63 ∨ (x = 3 ∧ j = 6) ∨ (x = 37 ∧ j = 16) ∨ (103 ≤ x ∧ (zk S x).1 = 20 ∧ (j ≤ 8 ∨ j = 14 ∨ j = 15)) := by
  unfold qfB at h
  rcases h with q | q | q | q | q | q | ⟨q1, q2, q3⟩
  · omega
  · omega
  · omega
  · omega
  · omega
  · omega
  · have := qknn q2; omega
/-- where books, words and codes' cells lie, in numbers -/
def qfbn (S : zS) (z i : Int) : Prop := 103 ≤ z ∧ (((zk S z).1 = 20 ∧ i ≠ 13 ∧ i ≠ 14 ∧ i ≠ 15) ∨ (zk S z).1 = 11 ∨ ((zk S z).1 = 3 ∧ (zk S (z - 1)).1 = 11) ∨ (zk S z).1 = 21 ∨ (zk S z).1 = 28 ∨ (zk S z).1 = 31 ∨ ((zk S z).1 = 0 ∧ ((zk S z).2 = 10 ∨ (zk S z).2 = 16 ∨ (zk S z).2 = 4)))
theorem qfb_n {S : zS} {b z i : Int} (hs : qBs S (zm S 8 b) b) (hb : qBB S b) (h : qfb S b (zm S 8 b) z i) : qfbn S z i := by
  obtain ⟨⟨a1, a2, a3, a4, a5⟩, -⟩ := hs
  unfold qfbn
  rcases h with ⟨q, q2⟩ | q | q | ⟨j, j1, j2, z1, z2⟩
  · rw [q]
    have := qknn a1
    omega
  · rw [q]
    have := qknn a2
    omega
  · rw [q, show zm S 8 b + 2 - 1 = zm S 8 b + 1 by omega]
    have := qknn a3
    have := qknn a2
    omega
  · obtain ⟨J, fL, fE, fA, fU, fM, P, l, ⟨⟨e1, -⟩, w, -⟩, -⟩ := hb
    obtain ⟨w1, -⟩ := w j.toNat (by omega)
    rw [show ((j.toNat : Nat) : Int) = j by omega] at w1
    obtain ⟨⟨⟨k0, k1, k2, k3, k4, k5⟩, -, y1, y2⟩, -⟩ := qWw_b w1
    generalize zm S (zm S 8 b + 1) j = y at *
    clear w
    have hz : z = y ∨ z = y + 1 ∨ z = y + 2 ∨ z = y + 3 ∨ z = y + 4 ∨ z = y + 5 := by omega
    rcases hz with rfl | rfl | rfl | rfl | rfl | rfl
    · have := qknn k0; omega
    · have := qknn k1; omega
    · have := qknn k2; omega
    · have := qknn k3; omega
    · have := qknn k4; omega
    · have := qknn k5; omega
theorem qBB_m {S S' : zS} {E : Int → Int → Prop} (hb : qYb S) (h : ∀ b, 0 ≤ b → b < zm S 37 16 → qBB S b) (a : qAg S S' E) (hn : 103 ≤ (zn S : Int)) (h16 : zm S' 37 16 = zm S 37 16) (he : ∀ z i, z = 8 ∨ (39 ≤ z ∧ z ≤ 61) ∨ (71 ≤ z ∧ z ≤ 80) ∨ (z = 37 ∧ (i = 12 ∨ i = 50 ∨ i = 51 ∨ i = 53 ∨ i = 63)) ∨ qfbn S z i → ¬ E z i) : ∀ b, 0 ≤ b → b < zm S' 37 16 → qBB S' b := fun b b1 b2 => by
  rw [h16] at b2
  have hs := hb.2.1 b b1 b2
  have hbb := h b b1 b2
  refine qBB_k hbb a hn (qBs_x hs).1 fun z i q => he z i ?_
  rcases q with q | q | q | q | q
  · exact Or.inl q
  · exact Or.inr (Or.inl q)
  · exact Or.inr (Or.inr (Or.inl q))
  · exact Or.inr (Or.inr (Or.inr (Or.inl q)))
  · exact Or.inr (Or.inr (Or.inr (Or.inr (qfb_n hs hbb q))))
theorem qYC_m {S S' : zS} {E : Int → Int → Prop} (hb : qYb S) (hp : qYp S) (h : qYC S) (a : qAg S S' E) (hn : 103 ≤ (zn S : Int)) (h16 : zm S' 37 16 = zm S 37 16) (he : ∀ z i, z = 8 ∨ z = 13 ∨ (51 ≤ z ∧ z ≤ 54) ∨ (82 ≤ z ∧ z ≤ 84) ∨ z = 85 ∨ (z = 88 ∧ zm S 37 65 ≤ i) ∨ (z = 37 ∧ (i = 65 ∨ i = 73)) ∨ (103 ≤ z ∧ (((zk S z).1 = 20 ∧ (i = 9 ∨ i = 13)) ∨ ((zk S z).1 = 3) ∨ ((zk S z).1 = 24 ∧ 2 ≤ i ∧ i ≤ 4) ∨ (zk S z).1 = 4)) → ¬ E z i) : qYC S' := by
  have row : ∀ z, z = 8 ∨ z = 13 ∨ (51 ≤ z ∧ z ≤ 54) ∨ (82 ≤ z ∧ z ≤ 84) ∨ z = 85 → zm S' z = zm S z := fun z hz => qAg_r a (by omega) fun i => he z i (by omega)
  have e65 : zm S' 37 65 = zm S 37 65 := a.2 37 65 (by omega) (he _ _ (by omega))
  have e73 : zm S' 37 73 = zm S 37 73 := a.2 37 73 (by omega) (he _ _ (by omega))
  have hx : ∀ b, 0 ≤ b → b < zm S 37 16 → (zm S' (zm S 8 b) 9 = zm S (zm S 8 b) 9 ∧ zm S' (zm S 8 b) 13 = zm S (zm S 8 b) 13) ∧ zm S' (zm S 8 b + 2) = zm S (zm S 8 b + 2) := fun b b1 b2 => by
    obtain ⟨⟨a1, a2, a3, a4, a5⟩, -⟩ := hb.2.1 b b1 b2
    have := qknn a1
    have := qknn a3
    exact ⟨⟨a.2 _ _ (by omega) (he _ _ (by omega)), a.2 _ _ (by omega) (he _ _ (by omega))⟩, qAg_r a (by omega) fun i => he _ _ (by omega)⟩
  obtain ⟨h1, h2, h3, h4, h5⟩ := h
  refine ⟨fun b b1 b2 => ?_, fun k k1 k2 => ?_, ?_, fun i i1 i2 => ?_, fun k k1 k2 => ?_⟩
  · rw [h16] at b2
    rw [row 8 (by omega), (hx b b1 b2).1.2, e65, qbn_e (row 82 (by omega))]
    exact h1 b b1 b2
  · rw [e65] at k2
    obtain ⟨b, x, y, w, t, P, q⟩ := h2 k k1 k2
    have q0 := q
    obtain ⟨⟨a1, a2, a3, a4, a5, a6⟩, ⟨b1, b2, b3, b4, b5, b6⟩, ⟨c0, c1, c2, c3, c4⟩, -⟩ := q
    have hxb := hx b b1 b2
    rw [a2] at hxb
    have n0 := qknn c0
    have n1 := qknn c1
    have n2 := qknn c2
    exact ⟨b, x, y, w, t, P, qCq_w q0 a.1 (by rw [row 82 (by omega)]) (by rw [row 8 (by omega)]) (by rw [row 13 (by omega)]) (by rw [row 51 (by omega)]) (by rw [row 52 (by omega)]) (by rw [row 54 (by omega)]) (Int.le_of_eq h16.symm) (fun p _ _ => by rw [row 85 (by omega)]) (fun q _ _ => by rw [row 83 (by omega)]) hxb.1.1 hxb.2 (fun j hj => a.2 y j (by omega) (he _ _ (by omega))) (qAg_r a (by omega) fun i => he _ _ (by omega)) (qAg_r a (by omega) fun i => he _ _ (by omega)) (by rw [row 84 (by omega)])⟩
  · rw [e73, e65, h3]
    refine (qst_e _ fun k hk => ?_).symm
    have hbk := (hp.2.1 k (Int.natCast_nonneg k) (by have := hp.1.2; omega)).2.2.1
    unfold qsh
    rw [row 82 (by omega), row 53 (by omega), row 8 (by omega), (hx _ hbk.1 hbk.2).1.1]
  · rw [e65] at i1
    rw [row 85 (by omega)]
    exact h4 i i1 i2
  · rw [e65] at k1
    rw [a.2 88 k (by omega) (he _ _ (by omega))]
    exact h5 k k1 k2
theorem qFc_m {S S' : zS} {E : Int → Int → Prop} (hb : qYb S) (hY : qYC S) (h : qFc S) (a : qAg S S' E) (hn : 103 ≤ (zn S : Int)) (h65 : zm S 37 65 ≤ zm S' 37 65) (he : ∀ z i, z = 8 ∨ z = 51 ∨ z = 52 ∨ (82 ≤ z ∧ z ≤ 83 ∧ (z = 82 → i < zm S 37 65) ∧ (z = 83 → i < 6 * zm S 37 65)) ∨ z = 89 ∨ (z = 37 ∧ i = 75) ∨ (103 ≤ z ∧ (((zk S z).1 = 20 ∧ i = 9) ∨ ((zk S z).1 = 3 ∧ (zk S (z - 1)).1 = 11))) → ¬ E z i) : qFc S' := by
  obtain ⟨h1, h2⟩ := h
  have e75 : zm S' 37 75 = zm S 37 75 := a.2 37 75 (by omega) (he _ _ (by omega))
  have row : ∀ z, z = 8 ∨ z = 51 ∨ z = 52 ∨ z = 89 → zm S' z = zm S z := fun z hz => qAg_r a (by omega) fun i => he z i (by omega)
  refine ⟨by rw [e75]; omega, fun k b x w t P k1 k2 k3 k4 k5 k6 k7 p l c p1 p2 l1 l2 c1 c2 => ?_⟩
  rw [e75] at k1
  rw [a.2 82 k (by omega) (he _ _ (by omega))] at k3
  rw [row 8 (by omega)] at k4
  rw [row 51 (by omega)] at k5
  rw [row 52 (by omega)] at k6
  obtain ⟨b', x', y', w', t', P', ⟨a1, a2, -⟩, ⟨b1, b2, -⟩, -⟩ := hY.2.1 k k2 (by omega)
  have hbb : b' = b := a1.symm.trans k3
  rw [hbb] at b1 b2
  obtain ⟨⟨y1, y2, y3, y4, y5⟩, -⟩ := hb.2.1 b b1 b2
  rw [k4] at y1 y2 y3 y4 y5
  have n1 := qknn y1
  have n2 := qknn y2
  have n3 := qknn y3
  rw [a.2 x 9 (by omega) (he _ _ (by omega))] at k7
  have ex : zm S' (x + 2) = zm S (x + 2) := qAg_r a (by omega) fun i => he _ _ (by rw [show x + 2 - 1 = x + 1 by omega]; omega)
  rw [row 89 (by omega), ex, h2 k b x w t P k1 k2 k3 k4 k5 k6 k7 p l c p1 p2 l1 l2 c1 c2]
  exact (qfwx_c (f := zm S (x + 2)) (g := zm S (x + 2)) (r := fun q => zm S 83 (6 * k + q)) (u := fun q => zm S' 83 (6 * k + q)) _ (fun _ _ _ => rfl) 6 fun q q1 q2 => a.2 83 _ (by omega) (he _ _ (by omega))).symm
