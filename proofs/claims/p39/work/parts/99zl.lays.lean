/-! What questions about books may write besides; the reference lays any book out. -/
def qsxf (z i : Int) : Prop := (71 ≤ z ∧ z ≤ 80) ∨ z = 89 ∨ (z = 37 ∧ (i = 50 ∨ i = 51 ∨ i = 53 ∨ i = 63 ∨ i = 75))
def qsx (S : zS) (z i : Int) : Prop := qscr S z i ∨ qsxf z i
def qFx (S : zS) (m' : Int → Int → Int) : Prop := ∀ z i, ¬ qsx S z i → m' z i = zm S z i
theorem qFx_q {S : zS} {m : Int → Int → Int} (h : qFq S m) : qFx S m := fun z i q => h z i fun p => q (Or.inl p)
theorem qFx_r (S : zS) : qFx S (zm S) := fun _ _ _ => rfl
theorem qsx_h {S : zS} {z i : Int} (hz : 103 ≤ z) (h : ¬ qscr S z i) : ¬ qsx S z i := fun q => q.elim h fun p => by unfold qsxf at p; omega
theorem qsx_l {S : zS} (hC : qRC S) {z i : Int} (hz : z ≤ 102) (h : ¬ qscf z i) (h2 : ¬ qsxf z i) : ¬ qsx S z i := fun q => q.elim (qns hC hz h) h2
theorem qsx_e {S : zS} {m : Int → Int → Int} (hC : qRC S) (h : qFx S m) (z i : Int) : qsx (qW S m) z i ↔ qsx S z i := by
  have e4 : m 37 4 = zm S 37 4 := h 37 4 (qsx_l hC (by decide) (by unfold qscf; omega) (by unfold qsxf; omega))
  have e6 : m 6 = zm S 6 := funext fun j => h 6 j (qsx_l hC (by decide) (by unfold qscf; omega) (by unfold qsxf; omega))
  show ((qscf z i ∨ ∃ c, 0 ≤ c ∧ c < m 37 4 ∧ (z = m 6 c + 2 ∨ (z = m 6 c + 3 ∧ i ≠ 0) ∨ z = m 6 c + 4)) ∨ qsxf z i) ↔ _
  rw [e4, e6]
  exact Iff.rfl
theorem qFx_t {S : zS} {m m' : Int → Int → Int} (hC : qRC S) (h : qFx S m) (g : qFx (qW S m) m') : qFx S m' := fun z i q => (g z i fun p => q ((qsx_e hC h z i).mp p)).trans (h z i q)
theorem qFx_lo {S : zS} {m : Int → Int → Int} (hC : qRC S) (h : qFx S m) (z : Int) (hz : z ≤ 102) (hs : ∀ i, ¬ qscf z i) (h2 : ∀ i, ¬ qsxf z i) : m z = zm S z := funext fun i => h z i (qsx_l hC hz (hs i) (h2 i))
theorem qFx_37 {S : zS} {m : Int → Int → Int} (hC : qRC S) (h : qFx S m) (i : Int) (hs : ¬ qscf 37 i) (h2 : ¬ qsxf 37 i) : m 37 i = zm S 37 i := h 37 i (qsx_l hC (by decide) hs h2)
theorem qFx_P {S : zS} {m' : Int → Int → Int} (h : qRC S) (hP : qP (zm S)) (hf : qFx S m') : qP m' := hP.same fun q hq => by
  have hb : ∀ q ∈ qPt, q.1 ≤ 102 ∧ ¬ (q.1 = 102 ∨ (q.1 = 18 ∧ q.2.1 ≠ 0) ∨ q.1 = 19 ∨ (q.1 = 20 ∧ q.2.1 ≠ 0 ∧ q.2.1 ≠ 4) ∨ q.1 = 21 ∨ q.1 = 22 ∨ ((q.1 = 23 ∨ q.1 = 30) ∧ (q.2.1 = 1 ∨ q.2.1 = 2 ∨ q.2.1 = 3 ∨ q.2.1 = 8 ∨ q.2.1 = 9 ∨ q.2.1 = 11)) ∨ (24 ≤ q.1 ∧ q.1 ≤ 29) ∨ (31 ≤ q.1 ∧ q.1 ≤ 36) ∨ (64 ≤ q.1 ∧ q.1 ≤ 70) ∨ (95 ≤ q.1 ∧ q.1 ≤ 101) ∨ (q.1 = 37 ∧ (q.2.1 = 0 ∨ (32 ≤ q.2.1 ∧ q.2.1 ≤ 34) ∨ (36 ≤ q.2.1 ∧ q.2.1 ≤ 38) ∨ q.2.1 = 40 ∨ q.2.1 = 42 ∨ q.2.1 = 43 ∨ q.2.1 = 45 ∨ q.2.1 = 46 ∨ q.2.1 = 83 ∨ q.2.1 = 88 ∨ q.2.1 = 90 ∨ q.2.1 = 92 ∨ q.2.1 = 94))) ∧ ¬ ((71 ≤ q.1 ∧ q.1 ≤ 80) ∨ q.1 = 89 ∨ (q.1 = 37 ∧ (q.2.1 = 50 ∨ q.2.1 = 51 ∨ q.2.1 = 53 ∨ q.2.1 = 63 ∨ q.2.1 = 75))) := by decide
  obtain ⟨b1, b2, b3⟩ := hb q hq
  exact hf q.1 q.2.1 (qsx_l h b1 b2 b3)
/-- the numbers of divided words -/
def qRK (S : zS) : Prop := ∀ k, 0 ≤ k → k < zm S 37 12 → ∃ p n : Nat, zm S 48 k = (p : Int) ∧ zm S 47 k = (n : Int) ∧ qPk p n
/-- all but books' words and copies -/
def qH0 (S : zS) : Prop := (qK S ∧ qP (zm S) ∧ qLt (zm S) ∧ 103 ≤ (zn S : Int)) ∧ (qRT S ∧ qRC S ∧ qRD S ∧ qRK S) ∧ qPo S ∧ qYb S
theorem qRD_ns {S : zS} (hC : qRC S) (hR : qRD S) {k : Int} (h0 : 0 ≤ k) (h1 : k < zm S 37 12) : ∀ x, zm S 7 k ≤ x → x ≤ zm S 7 k + 2 → 103 ≤ x ∧ ∀ j, ¬ qscr S x j := fun x x1 x2 => by
  obtain ⟨⟨q0, q1, q2, p0, p2, b1, b2⟩, -⟩ := hR.2.2.1 k h0 h1
  refine ⟨by omega, fun j => qnd hC (by omega) fun c c1 c2 => ?_⟩
  obtain ⟨d0, d1, d2, d3, d4, -⟩ := (hC.2.2.1 c c1 c2).1
  generalize zm S 7 k = y at *
  have n2 : y ≠ zm S 6 c + 2 := qkne q0 d2 (by decide)
  have n3 : y ≠ zm S 6 c + 3 := qkne q0 d3 (by decide)
  have n4 : y ≠ zm S 6 c + 4 := qkne q0 d4 (by decide)
  have r2 : y + 1 ≠ zm S 6 c + 2 := qkne q1 d2 (by decide)
  have r3 : y + 1 ≠ zm S 6 c + 3 := qkne q1 d3 (by decide)
  have s2 : y + 2 ≠ zm S 6 c + 2 := qkne q2 d2 (by decide)
  have s3 : y + 2 ≠ zm S 6 c + 3 := qkne q2 d3 (by decide)
  have s4 : y + 2 ≠ zm S 6 c + 4 := qkne q2 d4 (by decide)
  have hx : x = y ∨ x = y + 1 ∨ x = y + 2 := by omega
  rcases hx with rfl | rfl | rfl
  · exact ⟨n2, n3, n4⟩
  · exact ⟨r2, r3, fun q => n3 (by omega)⟩
  · exact ⟨s2, s3, s4⟩
theorem qRC_x {S : zS} {m : Int → Int → Int} (hC : qRC S) (hf : qFx S m) : qRC (qW S m) := by
  have lo := fun z hz hs h2 => qFx_lo hC hf z hz hs h2
  have l3 := fun i hs h2 => qFx_37 hC hf i hs h2
  have hi : ∀ z i, 103 ≤ z → ¬ qscr S z i → m z i = zm S z i := fun z i hz hs => hf z i (qsx_h hz hs)
  have cd := fun c c1 c2 => (hC.2.2.1 c c1 c2).1
  have kq : ∀ z, 103 ≤ z → zk S z ≠ (1, 17) → zk S z ≠ (28, 0) → zk S z ≠ (0, 10) → m z = zm S z := fun z hz k1 k2 k3 => funext fun i => hi z i hz (qns_k hC hz k1 k2 k3)
  have e4 : m 37 4 = zm S 37 4 := l3 4 (by unfold qscf; omega) (by unfold qsxf; omega)
  have e6 : m 6 = zm S 6 := lo 6 (by decide) (fun i => by unfold qscf; omega) (fun i => by unfold qsxf; omega)
  refine qRC_w (S' := qW S m) hC (qKp_w S m) (hf 3 2 (qsx_l hC (by decide) (by unfold qscf; omega) (by unfold qsxf; omega))) e4 e6 (fun x x1 x2 => lo x (by omega) (fun i => by unfold qscf; omega) (fun i => by unfold qsxf; omega)) (fun x x1 x2 x3 => ?_) (fun x x1 x2 x3 => ?_)
  · rcases x3 with q | q | q | q
    · exact kq x x1 (by rw [q]; decide) (by rw [q]; decide) (by rw [q]; decide)
    · exact kq x x1 (by rw [q]; decide) (by rw [q]; decide) (by rw [q]; decide)
    · exact kq x x1 (by rw [q]; decide) (by rw [q]; decide) (by rw [q]; decide)
    · exact kq x x1 (by rw [q]; decide) (by rw [q]; decide) (by rw [q]; decide)
  · refine hi x 0 x1 fun q => ?_
    rcases q with q | ⟨c, c1, c2, q⟩
    · unfold qscf at q; omega
    · obtain ⟨d0, d1, d2, d3, d4, -⟩ := cd c c1 c2
      rcases q with q | q | q
      · exact absurd q (qkne x3 d2 (by decide))
      · exact q.2 rfl
      · exact absurd q (qkne x3 d4 (by decide))
theorem qYb_x {S : zS} {m : Int → Int → Int} (hC : qRC S) (hn : 103 ≤ (zn S : Int)) (hb : qYb S) (hf : qFx S m) : qYb (qW S m) := by
  have e4 : m 37 4 = zm S 37 4 := qFx_37 hC hf 4 (by unfold qscf; omega) (by unfold qsxf; omega)
  have e6 : m 6 = zm S 6 := qFx_lo hC hf 6 (by decide) (fun i => by unfold qscf; omega) (fun i => by unfold qsxf; omega)
  refine qYb_k hb (qAg_w hf) hn (fun x j q => ?_) (Int.le_of_eq e4.symm) fun c _ _ => by show m 6 c = _; rw [e6]
  unfold qfB at q
  rcases q with q | q | q | q | q | q | q
  · exact qsx_l hC (by omega) (by unfold qscf; omega) (by unfold qsxf; omega)
  · exact qsx_l hC (by omega) (by unfold qscf; omega) (by unfold qsxf; omega)
  · exact qsx_l hC (by omega) (by unfold qscf; omega) (by unfold qsxf; omega)
  · exact qsx_l hC (by omega) (by unfold qscf; omega) (by unfold qsxf; omega)
  · exact qsx_l hC (by omega) (by unfold qscf; omega) (by unfold qsxf; omega)
  · exact qsx_l hC (by omega) (by unfold qscf; omega) (by unfold qsxf; omega)
  · exact qsx_h q.1 (qns_k hC q.1 (by rw [q.2.1]; decide) (by rw [q.2.1]; decide) (by rw [q.2.1]; decide))
theorem qLt_x {S : zS} {m : Int → Int → Int} (hC : qRC S) (hL : qLt (zm S)) (hf : qFx S m) : qLt m := fun q hq => by
  rw [qFx_lo hC hf 2 (by decide) (fun i => by unfold qscf; omega) (fun i => by unfold qsxf; omega)]
  exact hL q hq
/-- what laying out needs -/
def qH1 (S : zS) : Prop := (qK S ∧ qP (zm S) ∧ qLt (zm S) ∧ 103 ≤ (zn S : Int)) ∧ (qRC S ∧ 0 ≤ zm S 37 12 ∧ zm S 37 12 ≤ 12) ∧ qYb S
theorem qH1_x {S : zS} {m : Int → Int → Int} (h : qH1 S) (hf : qFx S m) : qH1 (qW S m) := by
  obtain ⟨⟨hK, hP, hL, hn⟩, ⟨hC, d1, d2⟩, hb⟩ := h
  have e12 : m 37 12 = zm S 37 12 := qFx_37 hC hf 12 (by unfold qscf; omega) (by unfold qsxf; omega)
  exact ⟨⟨hK, qFx_P hC hP hf, qLt_x hC hL hf, hn⟩, ⟨qRC_x hC hf, by show 0 ≤ m 37 12; rw [e12]; exact d1, by show m 37 12 ≤ 12; rw [e12]; exact d2⟩, qYb_x hC hn hb hf⟩
theorem qH1_0 {S : zS} (h : qH0 S) : qH1 S := ⟨h.1, ⟨h.2.1.2.1, h.2.1.2.2.1.2.1⟩, h.2.2.2⟩
theorem qH0_x {S : zS} {m : Int → Int → Int} (h : qH0 S) (hf : qFx S m) : qH0 (qW S m) := by
  obtain ⟨⟨hK, hP, hL, hn⟩, ⟨hT, hC, hR, hk⟩, ⟨p1, p2, p3, p4, p5, p6⟩, hb⟩ := h
  have lo := fun z hz hs h2 => qFx_lo hC hf z hz hs h2
  have l3 := fun i hs h2 => qFx_37 hC hf i hs h2
  have hi : ∀ z i, 103 ≤ z → ¬ qscr S z i → m z i = zm S z i := fun z i hz hs => hf z i (qsx_h hz hs)
  have a : qAg S (qW S m) (qsx S) := qAg_w hf
  have e16 : m 37 16 = zm S 37 16 := l3 16 (by unfold qscf; omega) (by unfold qsxf; omega)
  have e76 : m 37 76 = zm S 37 76 := l3 76 (by unfold qscf; omega) (by unfold qsxf; omega)
  have e4 : m 37 4 = zm S 37 4 := l3 4 (by unfold qscf; omega) (by unfold qsxf; omega)
  have e12 : m 37 12 = zm S 37 12 := l3 12 (by unfold qscf; omega) (by unfold qsxf; omega)
  have e6 : m 6 = zm S 6 := lo 6 (by decide) (fun i => by unfold qscf; omega) (fun i => by unfold qsxf; omega)
  have e47 : m 47 = zm S 47 := lo 47 (by decide) (fun i => by unfold qscf; omega) (fun i => by unfold qsxf; omega)
  have e48 : m 48 = zm S 48 := lo 48 (by decide) (fun i => by unfold qscf; omega) (fun i => by unfold qsxf; omega)
  refine ⟨⟨hK, qFx_P hC hP hf, fun q hq => ?_, hn⟩, ⟨?_, ?_, ?_, ?_⟩, ⟨?_, ?_, ?_, ?_, ?_, ?_⟩, ?_⟩
  · show m 2 q.1 = q.2
    rw [lo 2 (by decide) (fun i => by unfold qscf; omega) (fun i => by unfold qsxf; omega)]
    exact hL q hq
  · exact qRT_w (S2 := qW S m) hT (hf 4 1 (qsx_l hC (by decide) (by unfold qscf; omega) (by unfold qsxf; omega))) (lo 5 (by decide) (fun i => by unfold qscf; omega) (fun i => by unfold qsxf; omega)) (l3 2 (by unfold qscf; omega) (by unfold qsxf; omega)) (lo 38 (by decide) (fun i => by unfold qscf; omega) (fun i => by unfold qsxf; omega))
  · exact qRC_x hC hf
  · exact qRD_w (S2 := qW S m) hR (qKp_w S m) (hf 3 4 (qsx_l hC (by decide) (by unfold qscf; omega) (by unfold qsxf; omega))) e12 (lo 7 (by decide) (fun i => by unfold qscf; omega) (fun i => by unfold qsxf; omega)) (lo 46 (by decide) (fun i => by unfold qscf; omega) (fun i => by unfold qsxf; omega)) e47 e48 fun k k1 k2 x x1 x2 => funext fun j => by
      obtain ⟨y1, y2⟩ := qRD_ns hC hR k1 k2 x x1 x2
      exact hi x j y1 (y2 j)
  · intro k k1 k2
    have k2 : k < m 37 12 := k2
    show ∃ p n : Nat, m 48 k = (p : Int) ∧ m 47 k = (n : Int) ∧ qPk p n
    rw [e47, e48]
    exact hk k k1 (by omega)
  · exact qYn_k p1 a hn fun x j q => by
      unfold qfN at q
      exact qsx_l hC (by omega) (by unfold qscf; omega) (by unfold qsxf; omega)
  · exact qYd_k p2 a hn fun x j q => by
      unfold qfDy at q
      exact qsx_l hC (by omega) (by unfold qscf; omega) (by unfold qsxf; omega)
  · exact qYw_k p3 a hn (fun x j q => by
      unfold qfW at q
      exact qsx_l hC (by omega) (by unfold qscf; omega) (by unfold qsxf; omega)) (Int.le_of_eq e76.symm) (Int.le_of_eq e16.symm)
  · refine qYp_k p4 a hn (fun x j q => ?_) (Int.le_of_eq e76.symm) (Int.le_of_eq e16.symm)
    unfold qfP at q
    by_cases c : 103 ≤ x ∧ zk S x = (24, 0)
    · exact qsx_h c.1 (qns_k hC c.1 (by rw [c.2]; decide) (by rw [c.2]; decide) (by rw [c.2]; decide))
    · simp only [c, or_false] at q
      exact qsx_l hC (by omega) (by unfold qscf; omega) (by unfold qsxf; omega)
  · refine qYr_k p5 a hn fun x j q => ?_
    unfold qfR at q
    by_cases c : 103 ≤ x ∧ (zk S x = (27, 0) ∧ j ≠ 2 ∨ zk S x = (0, 3))
    · rcases c.2 with c2 | c2
      · exact qsx_h c.1 (qns_k hC c.1 (by rw [c2.1]; decide) (by rw [c2.1]; decide) (by rw [c2.1]; decide))
      · exact qsx_h c.1 (qns_k hC c.1 (by rw [c2]; decide) (by rw [c2]; decide) (by rw [c2]; decide))
    · simp only [c, or_false] at q
      exact qsx_l hC (by omega) (by unfold qscf; omega) (by unfold qsxf; omega)
  · refine qYh_k p5 p6 a hn fun x j q => ?_
    unfold qfH at q
    by_cases c : 103 ≤ x ∧ zk S x = (27, 0) ∧ j = 2
    · exact qsx_h c.1 (qns_k hC c.1 (by rw [c.2.1]; decide) (by rw [c.2.1]; decide) (by rw [c.2.1]; decide))
    · simp only [c, or_false] at q
      exact qsx_l hC (by omega) (by unfold qscf; omega) (by unfold qsxf; omega)
  · exact qYb_x hC hn hb hf
/-- a book's words are kept, whatever of the scratch is written -/
theorem qB0_x {S : zS} {m : Int → Int → Int} (hC : qRC S) (hf : qFx S m) {b : Int} (hs : qBs S (zm S 8 b) b) (hb : qBB S b) {w t : Int} {J : Nat} {fL fE : Nat → List Int} {fA fU fM : Nat → Int} {P l : Int} (h : qB0 S b (zm S 8 b) w t J fL fE fA fU fM P l) : qB0 (qW S m) b (zm S 8 b) w t J fL fE fA fU fM P l := by
  have lo := fun z hz hs h2 => qFx_lo hC hf z hz hs h2
  have l4 : ∀ z, 39 ≤ z → z ≤ 61 → m z = zm S z := fun z z1 z2 => lo z (by omega) (fun i => by unfold qscf; omega) (fun i => by unfold qsxf; omega)
  have e12 : m 37 12 = zm S 37 12 := qFx_37 hC hf 12 (by unfold qscf; omega) (by unfold qsxf; omega)
  obtain ⟨⟨b1, b2⟩, -⟩ := qBs_x hs
  refine qB0_w (S' := qW S m) h (qKp_w S m) (by show m 54 b = _; rw [l4 54 (by decide) (by decide)]) (fun j j1 j2 => ⟨fun x x1 x2 => by show m x b = _; rw [l4 x (by omega) (by omega)], fun x hx => by show m x _ = _; rw [l4 x (by omega) (by omega)], fun i i1 i2 => by show m 58 _ = _; rw [l4 58 (by decide) (by decide)]⟩) (fun N T rc => qRc_f rc fun x x1 x2 => l4 x x1 (by omega)) (fun W dg => qPw_e e12 (l4 46 (by decide) (by decide)) (l4 47 (by decide) (by decide)) (l4 48 (by decide) (by decide)) W dg) fun z i hz => hf z i ?_
  have z103 : 103 ≤ z := by
    rcases hz with q | q | q | ⟨j, j1, j2, z1, z2⟩
    · omega
    · omega
    · omega
    · obtain ⟨⟨e1, -⟩, a4, -⟩ := h
      obtain ⟨w1, -⟩ := a4 j.toNat (by omega)
      rw [show ((j.toNat : Nat) : Int) = j by omega] at w1
      have := (qWw_b w1).1.2.2
      omega
  exact qsx_h z103 (qfb_s hC hs hb hz)
/-- what laying out writes -/
def qfly (z i : Int) : Prop := (64 ≤ z ∧ z ≤ 69) ∨ (71 ≤ z ∧ z ≤ 80) ∨ (z = 37 ∧ ((32 ≤ i ∧ i ≤ 34) ∨ (36 ≤ i ∧ i ≤ 38) ∨ i = 40 ∨ i = 42 ∨ i = 43 ∨ i = 45 ∨ i = 46 ∨ i = 50 ∨ i = 51 ∨ i = 53 ∨ i = 63))
def qFly (m m' : Int → Int → Int) : Prop := ∀ z i, ¬ qfly z i → m' z i = m z i
theorem qFly_t {m m1 m2 : Int → Int → Int} (h : qFly m m1) (g : qFly m1 m2) : qFly m m2 := fun z i q => (g z i q).trans (h z i q)
theorem qFly_r (m : Int → Int → Int) : qFly m m := fun _ _ _ => rfl
theorem qFly_x {S : zS} {m' : Int → Int → Int} (h : qFly (zm S) m') : qFx S m' := fun z i q => h z i fun p => q (by
  by_cases c : qscf z i
  · exact Or.inl (Or.inl c)
  · refine Or.inr ?_
    unfold qscf at c
    unfold qfly at p
    unfold qsxf
    omega)
/-- a book lies laid out -/
def qLd (S : zS) (b : Int) : Prop := zm S 37 50 = b ∧ zm S 37 51 = zm S 54 b
theorem qB_J {S : zS} {b x w t : Int} {J : Nat} {fL fE : Nat → List Int} {fA fU fM : Nat → Int} {P l : Int} (h : qB0 S b x w t J fL fE fA fU fM P l) : ∀ j : Nat, j < J → qWo (fL j) (fE j) (fA j) := fun j hj => qWdo_o (qWw_d (h.2.1 j hj).1)
theorem q_lays (d : Nat) (S : zS) (b : Int) (h : 10 ≤ d) (hH : qH1 S) (hB : ∀ b, 0 ≤ b → b < zm S 37 16 → qBB S b) (hb : 0 ≤ b ∧ b < zm S 37 16) :
    ∃ m', zD d 265 [vr 37, vi b] S = some (.inl none, qW S m') ∧ qFly (zm S) m' ∧ qLd (qW S m') b ∧ ∀ b', 0 ≤ b' → b' < zm S 37 16 → qBB (qW S m') b' := by
  obtain ⟨⟨hK, hP, hL, hn⟩, ⟨hC, hR⟩, hY⟩ := hH
  have hs := hY.2.1 b hb.1 hb.2
  obtain ⟨⟨x1, x2⟩, -, wr, tr, -⟩ := qBs_x hs
  have hbb := hB b hb.1 hb.2
  obtain ⟨J, fL, fE, fA, fU, fM, P, l, h0, h1⟩ := hB b hb.1 hb.2
  obtain ⟨m', r, c1, c2, c3, c4⟩ := r_lays d S b _ _ J fL fE fA fU fM h hK hP hR ⟨hb.1, by have := hY.1.2; omega⟩ h0.1.1 rfl rfl h0.1.2.1 wr tr (fun j hj => qWw_d (h0.2.1 j hj).1) h0.1.2.2 (fun q1 q2 => (h1 q1).2 q2)
  have hfl : qFly (zm S) m' := fun z i q => by
    by_cases z37 : z = 37
    · subst z37
      exact c4.2 i fun hi => q (by
        simp only [List.mem_cons, List.not_mem_nil, or_false] at hi
        unfold qfly
        omega)
    · exact congrFun (c4.1 z z37 fun hi => q (by
        simp only [List.mem_cons, List.not_mem_nil, or_false] at hi
        unfold qfly
        omega)) i
  have hf : qFx S m' := qFly_x hfl
  have lo := fun z hz hs h2 => qFx_lo hC hf z hz hs h2
  have e8 : m' 8 = zm S 8 := lo 8 (by decide) (fun i => by unfold qscf; omega) (fun i => by unfold qsxf; omega)
  have e51 : m' 51 = zm S 51 := lo 51 (by decide) (fun i => by unfold qscf; omega) (fun i => by unfold qsxf; omega)
  have e52 : m' 52 = zm S 52 := lo 52 (by decide) (fun i => by unfold qscf; omega) (fun i => by unfold qsxf; omega)
  have e54 : m' 54 = zm S 54 := lo 54 (by decide) (fun i => by unfold qscf; omega) (fun i => by unfold qsxf; omega)
  refine ⟨m', r, hfl, ⟨c2, by show m' 37 51 = m' 54 b; rw [c3, e54, h0.1.1]⟩, fun b' b1 b2 => ?_⟩
  by_cases c : b' = b
  · subst c
    refine ⟨J, fL, fE, fA, fU, fM, P, l, ?_, ?_⟩
    · show qB0 (qW S m') b' (m' 8 b') (m' 51 b') (m' 52 b') J fL fE fA fU fM P l
      rw [e8, e51, e52]
      exact qB0_x hC hf hs hbb h0
    · show qBl m' b' (m' 51 b') (m' 52 b') J fL fE fA fU fM
      rw [e51, e52]
      exact fun _ => ⟨by rw [c3]; exact Int.le_refl _, fun _ => c1⟩
  · have hs' := hY.2.1 b' b1 b2
    have hbb' := hB b' b1 b2
    obtain ⟨J', gL, gE, gA, gU, gM, P', l', g0, g1⟩ := hB b' b1 b2
    refine ⟨J', gL, gE, gA, gU, gM, P', l', ?_, ?_⟩
    · show qB0 (qW S m') b' (m' 8 b') (m' 51 b') (m' 52 b') J' gL gE gA gU gM P' l'
      rw [e8, e51, e52]
      exact qB0_x hC hf hs' hbb' g0
    · exact fun q => absurd (c2.symm.trans q) fun z => c z.symm
