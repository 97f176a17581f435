/-! A copy is made: what is known behind it. -/
/-- fewer dots told, none less raised -/
theorem qsb_1 (f : Int → Int) (q : Int) (i : Nat) : ∀ n : Nat, i < n → qbt (f i) q = 1 → qsb f q i + 1 ≤ qsb f q n := by
  intro n
  induction n with
  | zero => intro h; omega
  | succ n ih =>
    intro h hb
    have br := qbt_r (f n) q
    rw [qsb]
    by_cases c : i = n
    · subst c
      rw [hb]
      exact Int.le_refl _
    · have := ih (by omega) hb
      omega
theorem qfwx_mn (f c : Int → Int) (n : Nat) (i : Nat) (hi : i < n) : ∀ j : Nat, qfwx f (fun q => qmn (c q) (qsb f q n)) j i = qfwx f c j i := by
  intro j
  induction j with
  | zero => rfl
  | succ j ih =>
    rw [qfwx, qfwx, ih]
    have h1 := qsb_1 f j i n hi
    by_cases cb : qbt (f i) j = 1
    · have h1 := h1 cb
      have e : (qbt (f i) j = 1 ∧ qsb f j i < (fun q => qmn (c q) (qsb f q n)) j) ↔ (qbt (f i) j = 1 ∧ qsb f j i < c j) := by
        show (_ ∧ qsb f j i < qmn (c j) (qsb f j n)) ↔ _
        unfold qmn
        split <;> omega
      by_cases c2 : qbt (f i) j = 1 ∧ qsb f j i < c j
      · rw [if_pos (e.mpr c2), if_pos c2]
      · rw [if_neg fun q => c2 (e.mp q), if_neg c2]
    · rw [if_neg fun q => cb q.1, if_neg fun q => cb q.1]
theorem qbn_c {m m' : Int → Int → Int} (b : Int) : ∀ k : Nat, (∀ i : Nat, i < k → m' 82 i = m 82 i) → qbn m' b k = qbn m b k := by
  intro k
  induction k with
  | zero => intro _; rfl
  | succ k ih =>
    intro h
    rw [qbn, qbn, ih fun i hi => h i (by omega), h k (by omega)]
theorem qB0_p {S : zS} {b x w t : Int} {J : Nat} {fL fE : Nat → List Int} {fA fU fM : Nat → Int} {P l : Int} (h : qB0 S b x w t J fL fE fA fU fM P l) (hw : 18 ≤ w) (hJ : 0 < J) : 0 < P := by
  have := (qZn_f (t := t) hw (qB_J h) h.1.2.2 J (Nat.le_refl _)).2 hJ
  rcases h.2.2.2.2.1 with ⟨q1, -⟩ | q
  · omega
  · omega
def qEk_emb2 (S : zS) (z j : Int) : Prop := z = 102 ∨ (z = 37 ∧ (j = 0 ∨ j = 65 ∨ j = 73)) ∨ (z = 3 ∧ j = 9) ∨ z = 13 ∨ (10 ≤ z ∧ z ≤ 12) ∨ z = 81 ∨ (z = 82 ∧ zm S 37 65 ≤ j) ∨ (z = 83 ∧ 6 * zm S 37 65 ≤ j) ∨ z = 84 ∨ (86 ≤ z ∧ z ≤ 87) ∨ (103 ≤ z ∧ (zk S z).1 = 20 ∧ j = 13)
/-- a new copy of both -/
def qEmN (S S2 : zS) (k b x c w t P : Int) (n : Nat) (f cp : Int → Int) : Prop :=
  ((zn S2 : Int) = zn S + 3 ∧ ∀ z, zk S2 z = if z = (zn S : Int) + 2 then (4, P) else if z = (zn S : Int) + 1 then (3, (n : Int)) else if z = zn S then (24, 0) else zk S z) ∧
  (∀ z : Int, z < zn S → z ≠ 3 → z ≠ 13 → z ≠ 37 → z ≠ 10 + c → ¬ (81 ≤ z ∧ z ≤ 84) → z ≠ 86 → z ≠ 87 → z ≠ x → z ≠ 102 → zm S2 z = zm S z) ∧
  ((∀ j, j ≠ 9 → zm S2 3 j = zm S 3 j) ∧ zm S2 3 9 = k + 1) ∧ (∀ i, zm S2 13 i = if i = k then (zn S : Int) else zm S 13 i) ∧ ((∀ j, j ≠ 0 → j ≠ 65 → j ≠ 73 → zm S2 37 j = zm S 37 j) ∧ zm S2 37 65 = k + 1 ∧ zm S2 37 73 = zm S 37 73 + qsh (zm S) b) ∧
  (∀ q, 0 ≤ q → q < 6 → zm S2 (10 + c) q = cp q - qmn (cp q) (qsb f q n) ∧ zm S2 81 (6 * c + q) = cp q - qmn (cp q) (qsb f q n)) ∧ (∀ i, i < 6 * c ∨ 6 * c + 6 ≤ i → zm S2 81 i = zm S 81 i) ∧
  (∀ i, zm S2 82 i = if i = k then b else zm S 82 i) ∧ ((∀ q, 0 ≤ q → q < 6 → zm S2 83 (6 * k + q) = qmn (cp q) (qsb f q n)) ∧ ∀ i, i < 6 * k → zm S2 83 i = zm S 83 i) ∧ (∀ i, zm S2 84 i = if i = k then qps (fun q => qgm f cp q n) 6 else zm S 84 i) ∧
  ((∀ i, zm S2 86 i = if i = k then -1 else zm S 86 i) ∧ ∀ i, zm S2 87 i = if i = k then -1 else zm S 87 i) ∧ ((∀ j, j ≠ 13 → zm S2 x j = zm S x j) ∧ zm S2 x 13 = zm S x 13 + 1) ∧
  (zm S2 (zn S) 0 = b ∧ zm S2 (zn S) 1 = x ∧ zm S2 (zn S) 2 = (zn S : Int) + 1 ∧ zm S2 (zn S) 3 = (zn S : Int) + 2 ∧ zm S2 (zn S) 4 = 0 ∧ zm S2 (zn S) 5 = qps (fun q => qgm f cp q n) 6 ∧ zm S2 (zn S) 6 = -1 ∧ zm S2 (zn S) 7 = -1 ∧ zm S2 (zn S) 8 = 0) ∧
  (∀ i : Nat, i < n → zm S2 ((zn S : Int) + 1) i = qfwx f cp 6 i) ∧ ∀ j, zm S2 ((zn S : Int) + 2) j = 0
theorem q_emboss_T {S S2 : zS} {k b x c w t P : Int} {n : Nat} {f cp : Int → Int} (hH : qHC S) (hk : zm S 37 65 = k) (hk20 : k < 20) (hb : 0 ≤ b ∧ b < zm S 37 16) (hx : zm S 8 b = x) (hc : 0 ≤ c ∧ c < 3) (hw : zm S 51 b = w) (ht : zm S 52 b = t) (hP : zm S x 9 = P) (h54 : 0 < zm S 54 b) (hn : P * (t * w) = (n : Int)) (hf : zm S (x + 2) = f) (hcp : ∀ q, 0 ≤ q → q < 6 → zm S 81 (6 * c + q) = cp q) (h : qEmN S S2 k b x c w t P n f cp) : qHC S2 := by
  obtain ⟨⟨⟨⟨hK, hPp, hL, hn1⟩, -, ⟨p1, p2, p3, p4, p5, p6⟩, hY⟩, hBB⟩, hYC, hFc⟩ := id hH
  obtain ⟨⟨n2, k2⟩, old, ⟨o3, o39⟩, o13, ⟨o37, o65, o73⟩, o10, o81, o82, ⟨o83, o83'⟩, o84, ⟨o86, o87⟩, ⟨ox, ox13⟩, ⟨N0, N1, N2, N3, N4, N5, N6, N7, N8⟩, NF, NH⟩ := h
  obtain ⟨N, hN⟩ : ∃ N : Int, (zn S : Int) = N := ⟨_, rfl⟩
  rw [hN] at n2 k2 old o13 N0 N1 N2 N3 N4 N5 N6 N7 N8 NF NH hn1
  have k0 : 0 ≤ k := by rw [← hk]; exact p4.1.2.1
  have n76 := p5.1.2
  have n16 := hY.1.2
  obtain ⟨⟨kx, kx1, kx2, x103, xn⟩, -, -, ⟨-, wr⟩, ⟨-, tr⟩, -⟩ := hY.2.1 b hb.1 hb.2
  rw [hx] at kx kx1 kx2 x103 xn
  rw [hw] at wr
  rw [ht] at tr
  rw [hN] at xn
  have nkx := qknn kx
  have Pp : (0 < P ∧ P ≤ 121) := by
    obtain ⟨J, fL, fE, fA, fU, fM, P', ll, w0, -⟩ := hBB b hb.1 hb.2
    obtain ⟨Pr, x9, -⟩ := qB0_P w0 (by rw [hw]; exact wr.1) (by rw [ht]; exact tr)
    rw [hx, hP] at x9
    have J0 := w0.1.1
    have := qB0_p w0 (by rw [hw]; exact wr.1) (by omega)
    omega
  have tw0 : 0 < t * w := Int.mul_pos (by omega) (by omega)
  have kp : qKp S S2 := ⟨by omega, fun z hz => by rw [k2, if_neg (by omega), if_neg (by omega), if_neg (by omega)]⟩
  have lo : ∀ z, z < 81 → z ≠ 3 → z ≠ 13 → z ≠ 37 → ¬ (10 ≤ z ∧ z ≤ 12) → zm S2 z = zm S z := fun z z1 z2 z3 z4 z5 => old z (by omega) z2 z3 z4 (by omega) (by omega) (by omega) (by omega) (by omega) (by omega)
  have l8 : zm S2 8 = zm S 8 := lo 8 (by decide) (by decide) (by decide) (by decide) (by decide)
  have l51 : zm S2 51 = zm S 51 := lo 51 (by decide) (by decide) (by decide) (by decide) (by decide)
  have l52 : zm S2 52 = zm S 52 := lo 52 (by decide) (by decide) (by decide) (by decide) (by decide)
  have l53 : zm S2 53 = zm S 53 := lo 53 (by decide) (by decide) (by decide) (by decide) (by decide)
  have l54 : zm S2 54 = zm S 54 := lo 54 (by decide) (by decide) (by decide) (by decide) (by decide)
  have l14 : zm S2 14 = zm S 14 := lo 14 (by decide) (by decide) (by decide) (by decide) (by decide)
  have l85 : zm S2 85 = zm S 85 := old 85 (by omega) (by decide) (by decide) (by decide) (by omega) (by omega) (by decide) (by decide) (by omega) (by decide)
  have l88 : zm S2 88 = zm S 88 := old 88 (by omega) (by decide) (by decide) (by decide) (by omega) (by omega) (by decide) (by decide) (by omega) (by decide)
  have l89 : zm S2 89 = zm S 89 := old 89 (by omega) (by decide) (by decide) (by decide) (by omega) (by omega) (by decide) (by decide) (by omega) (by decide)
  have e16 : zm S2 37 16 = zm S 37 16 := o37 16 (by decide) (by decide) (by decide)
  have e76 : zm S2 37 76 = zm S 37 76 := o37 76 (by decide) (by decide) (by decide)
  have hi : ∀ z, 103 ≤ z → z < N → z ≠ x → zm S2 z = zm S z := fun z z1 z2 z3 => old z z2 (by omega) (by omega) (by omega) (by omega) (by omega) (by omega) (by omega) z3 (by omega)
  have bk : ∀ b', 0 ≤ b' → b' < zm S 37 16 → (∀ j, j ≠ 13 → zm S2 (zm S 8 b') j = zm S (zm S 8 b') j) ∧ zm S2 (zm S 8 b' + 2) = zm S (zm S 8 b' + 2) ∧ zm S2 (zm S 8 b') 13 = zm S (zm S 8 b') 13 + if b' = b then 1 else 0 := fun b' c1 c2 => by
    obtain ⟨⟨f1, f2, f3, f4, f5⟩, -⟩ := hY.2.1 b' c1 c2
    rw [hN] at f5
    have n3 := qknn f3
    refine ⟨fun j hj => ?_, hi _ (by omega) (by omega) (fun q => by rw [q] at n3; omega), ?_⟩
    · by_cases q : zm S 8 b' = x
      · rw [q, ox j hj]
      · rw [hi _ f4 (by omega) q]
    · by_cases q : b' = b
      · rw [if_pos q, q, hx, ox13]
      · rw [if_neg q, Int.add_zero]
        have ne : zm S 8 b' ≠ x := by
          rw [← hx]
          rcases Int.lt_or_gt_of_ne q with g | g
          · exact hY.2.2.1 b' b c1 g hb.2
          · exact Ne.symm (hY.2.2.1 b b' hb.1 g c2)
        rw [hi _ f4 (by omega) ne]
  have cpy : ∀ i, 0 ≤ i → i < k → zm S2 (zm S 13 i) = zm S (zm S 13 i) := fun i i1 i2 => by
    obtain ⟨⟨ki, i103, iN⟩, -⟩ := p4.2.1 i i1 (by omega)
    have nk := qknn ki
    exact hi _ i103 (by omega) (fun q => by rw [q] at nk; omega)
  -- what is kept in all
  have ag : qAg S S2 (qEk_emboss S) := ⟨kp, fun z j hz he => by
    rw [hN] at hz
    unfold qEk_emboss at he
    by_cases z1 : z = 3
    · subst z1; exact o3 j (by omega)
    · by_cases z2 : z = 37
      · subst z2; exact o37 j (by omega) (by omega) (by omega)
      · by_cases z3 : z = x
        · rw [z3, ox j (by rw [z3] at he; omega)]
        · rw [old z hz z1 (by omega) z2 (by omega) (by omega) (by omega) (by omega) z3 (by omega)]⟩
  have ag2 : qAg S S2 (qEk_emb2 S) := ⟨kp, fun z j hz he => by
    rw [hN] at hz
    unfold qEk_emb2 at he
    rw [hk] at he
    by_cases z1 : z = 3
    · subst z1; exact o3 j (by omega)
    · by_cases z2 : z = 37
      · subst z2; exact o37 j (by omega) (by omega) (by omega)
      · by_cases z3 : z = x
        · rw [z3, ox j (by rw [z3] at he; omega)]
        · by_cases z4 : z = 82
          · subst z4; rw [o82, if_neg (by omega)]
          · by_cases z5 : z = 83
            · subst z5; exact o83' j (by omega)
            · rw [old z hz z1 (by omega) z2 (by omega) (by omega) (by omega) (by omega) z3 (by omega)]⟩
  have cpr : ∀ q, 0 ≤ q → q < 6 → 0 ≤ qmn (cp q) (qsb f q n) ∧ qmn (cp q) (qsb f q n) ≤ 100000 := fun q q1 q2 => by
    have y := (p1 c q hc.1 hc.2 q1 q2).2
    rw [hcp q q1 q2] at y
    have sr := qsb_r f q n
    unfold qmn
    split <;> omega
  refine qk_emboss hH ag (fun e p e1 e2 p1' p2' => ?_) ⟨⟨?_, ?_⟩, fun i i1 i2 => ?_, fun i j i1 i2 j2 => ?_⟩ (fun i i1 i2 => ?_) ⟨fun b' c1 c2 => ?_, fun i i1 i2 => ?_, ?_, fun i i1 i2 => ?_, fun i i1 i2 => ?_⟩ (qFc_m hY hYC hFc ag2 (by omega) (by omega) (fun z i q => by unfold qEk_emb2; omega)) (by omega)
  · obtain ⟨y1, y2, y3⟩ := p1 e p e1 e2 p1' p2'
    by_cases q : e = c
    · subst q
      obtain ⟨v1, v2⟩ := o10 p p1' p2'
      rw [hcp p p1' p2'] at y2 y3
      have sr := qsb_r f p n
      rw [v1, v2]
      refine ⟨rfl, ?_⟩
      unfold qmn
      split <;> omega
    · rw [o81 _ (by omega), old (10 + e) (by omega) (by omega) (by omega) (by omega) (by omega) (by omega) (by omega) (by omega) (by omega) (by omega)]
      exact ⟨y1, y2, y3⟩
  · rw [o39, o65]
  · rw [o65]; omega
  · rw [o65] at i2
    rw [n2, o13, o82, l8, o84, l88, o86, o87, e16, e76]
    by_cases q : i = k
    · subst q
      rw [if_pos rfl, if_pos rfl, if_pos rfl, if_pos rfl, if_pos rfl, N0, N1, N5, N6, N7, N8, hx]
      refine ⟨⟨by rw [k2, if_neg (by omega), if_neg (by omega), if_pos rfl], by omega, by omega⟩, rfl, hb, rfl, rfl, rfl, rfl, ?_, Or.inl ⟨rfl, rfl⟩⟩
      exact (hYC.2.2.2.2 i (by omega) (by omega)).symm
    · rw [if_neg q, if_neg q, if_neg q, if_neg q, if_neg q, cpy i i1 (by omega)]
      obtain ⟨⟨q1, q2, q3⟩, q4⟩ := p4.2.1 i i1 (by omega)
      exact ⟨⟨by rw [kp.2 _ q3]; exact q1, q2, by omega⟩, q4⟩
  · rw [o65] at j2
    rw [o13, o13, if_neg (show ¬ i = k by omega)]
    have i3 := (p4.2.1 i i1 (by omega)).1.2.2
    by_cases q : j = k
    · rw [if_pos q]; omega
    · rw [if_neg q]
      exact p4.2.2 i j i1 i2 (by omega)
  · rw [e76] at i2
    obtain ⟨⟨ki, -, i103, iN, -⟩, -⟩ := p5.2.1 i i1 i2
    have nk := qknn ki
    rw [l14, hi _ i103 (by omega) (fun q => by rw [q] at nk; omega), p6 i i1 i2, qhl_v, qhl_v, o65, hk, show (k + 1).toNat = k.toNat + 1 by omega, qcv, o86, if_pos (show ((k.toNat : Nat) : Int) = k by omega), if_neg (show ¬ (-1 : Int) = i by omega), Int.add_zero]
    exact (qcv_c _ _ fun j hj => by rw [o86, if_neg (by omega)]).symm
  · rw [e16] at c2
    rw [l8, (bk b' c1 c2).2.2, hYC.1 b' c1 c2, o65, hk, show (k + 1).toNat = k.toNat + 1 by omega, qbn, o82, if_pos (show ((k.toNat : Nat) : Int) = k by omega), qbn_c (m := zm S) (m' := zm S2) b' k.toNat (fun j hj => by rw [o82, if_neg (by omega)])]
    by_cases q : b' = b
    · rw [if_pos q, if_pos q.symm]
    · rw [if_neg q, if_neg (Ne.symm q)]
  · rw [o65] at i2
    by_cases q : i = k
    · subst q
      have hz : ∀ p, 0 ≤ p → p < 160 → zm S 85 (160 * i + p) = 0 := fun p p1 p2 => hYC.2.2.2.1 _ (by omega) (by omega)
      refine ⟨b, x, N, w, t, P, ⟨by rw [o82, if_pos rfl], by rw [l8, hx], by rw [o13, if_pos rfl], by rw [l51, hw], by rw [l52, ht], by rw [ox 9 (by decide), hP]⟩, ⟨hb.1, by rw [e16]; exact hb.2, by rw [l54]; exact h54, Pp.1, Pp.2, tw0⟩, ⟨by rw [k2, if_neg (by omega), if_neg (by omega), if_pos rfl], by rw [k2, if_neg (by omega), if_pos rfl, hn], by rw [k2, if_pos rfl], by omega, by omega⟩, ⟨N2, N3, ?_⟩, fun p p1 p2 => by rw [NH, l85, hz p p1 (by omega)], fun p p1 p2 => ⟨by rw [l85, hz p p1 p2]; decide, fun p3 => by rw [o83 p p1 p3]; exact cpr p p1 p3⟩, fun p p1 p2 => by rw [l85, hz p (by omega) p2], fun j hj => ?_, fun z q q1 q2 => ?_⟩
      · rw [N4]
        have z0 : ∀ m : Nat, m ≤ 160 → qhp (zm S2) i m = 0 := fun m => by
          induction m with
          | zero => intro _; rfl
          | succ m ih =>
            intro hm
            rw [qhp, ih (by omega), l85, hz m (by omega) (by omega), if_pos rfl]
            rfl
        exact (z0 160 (Nat.le_refl _)).symm
      · have d1 : 0 ≤ (j : Int) / (t * w) := Int.ediv_nonneg (by omega) (Int.le_of_lt tw0)
        have d2 : (j : Int) / (t * w) < P := Int.ediv_lt_of_lt_mul tw0 hj
        have jn : j < n := by omega
        have nk2 := qknn kx2
        rw [l85, hz _ d1 (by omega), if_pos rfl, NF j jn, hi (x + 2) (by omega) (by omega) (by omega), hf, ← qfwx_mn f cp n j jn 6]
        exact (qfwx_c (f := f) (g := f) j (fun _ _ _ => rfl) 6 fun q q1 q2 => o83 q q1 (by omega)).symm
      · have nk2 := qknn kx2
        rw [o84, if_pos rfl] at z
        have cq : ∀ q : Int, 0 ≤ q → q < 6 → 0 ≤ cp q := fun q q1 q2 => by rw [← hcp q q1 q2]; exact (p1 c q hc.1 hc.2 q1 q2).2.1
        have g0 := qps_z f cp n 6 (fun q q1 q2 => cq q q1 q2) z q q1 q2
        rw [hi (x + 2) (by omega) (by omega) (by omega), hf, o83 q q1 q2, hn, Int.toNat_natCast]
        unfold qgm at g0
        omega
    · obtain ⟨b', x', y', w', t', P', g⟩ := hYC.2.1 i i1 (by omega)
      have g0 := g
      obtain ⟨⟨f1, f2, f3, f4, f5, f6⟩, ⟨g1, g2, g3, g4, g5, g6⟩, ⟨h1, h2, h3, h4, h5⟩, -⟩ := g
      have bb := bk b' g1 g2
      rw [f2] at bb
      rw [hN] at h5
      have m2 := qknn h2
      have m3 := qknn h3
      have oy := cpy i i1 (by omega)
      rw [f3] at oy
      exact ⟨b', x', y', w', t', P', qCq_w g0 kp (by rw [o82, if_neg q]) (by rw [l8]) (by rw [o13, if_neg q]) (by rw [l51]) (by rw [l52]) (by rw [l54]) (Int.le_of_eq e16.symm) (fun p _ _ => by rw [l85]) (fun p p1 p2 => o83' _ (by omega)) (bb.1 9 (by decide)) bb.2.1 (fun j _ => by rw [oy]) (hi _ (by omega) (by omega) (fun q => by rw [q] at m2; omega)) (hi _ (by omega) (by omega) (fun q => by rw [q] at m3; omega)) (by rw [o84, if_neg q])⟩
  · rw [o65, show (k + 1).toNat = k.toNat + 1 by omega, qst_, o82, if_pos (show ((k.toNat : Nat) : Int) = k by omega), o73, hYC.2.2.1, hk]
    have e1 : qst_ (zm S2) k.toNat = qst_ (zm S) k.toNat := qst_e _ fun i hi' => by
      have hbi := (p4.2.1 i (Int.natCast_nonneg i) (by omega)).2.2.1
      unfold qsh
      rw [o82, if_neg (show ¬ (i : Int) = k by omega), l53, l8, (bk _ hbi.1 hbi.2).1 9 (by decide)]
    have e2 : qsh (zm S2) b = qsh (zm S) b := by
      unfold qsh
      rw [l53, l8, (bk b hb.1 hb.2).1 9 (by decide)]
    rw [e1, e2]
  · rw [o65] at i1
    rw [l85]
    exact hYC.2.2.2.1 i (by omega) i2
  · rw [o65] at i1
    rw [l88]
    exact hYC.2.2.2.2 i (by omega) i2
