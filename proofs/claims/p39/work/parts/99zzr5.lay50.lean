/-! What lies laid out is a book: the questions that lay one out, once more. -/
def q50 (S : zS) (m : Int → Int → Int) : Prop := m 37 50 = zm S 37 50 ∨ (0 ≤ m 37 50 ∧ m 37 50 < zm S 37 16)
def qG5 (S S2 : zS) : Prop := qGo S S2 ∧ q50 S (zm S2) ∧ zm S 37 16 ≤ zm S2 37 16
theorem q5_w {S : zS} {m : Int → Int → Int} (h : qHC (qW S m)) (e1 : m 37 16 = zm S 37 16) (e2 : m 37 65 = zm S 37 65) (h5 : q50 S m) : qG5 S (qW S m) := ⟨qGo_w h e1 e2, h5, Int.le_of_eq e1.symm⟩
theorem q5_f {S : zS} (hH : qHC S) {m : Int → Int → Int} (f : qFx S m) (h : qHC (qW S m)) (h5 : q50 S m) : qG5 S (qW S m) := q5_w h (qGo_e hH f).1 (qGo_e hH f).2 h5
theorem q5_x {S : zS} (hH : qHC S) {m : Int → Int → Int} (f : qFx S m) (h : qHC (qW S m)) (h5 : q50 S m) : qG5 S (zbump (qW S m)) := ⟨qGo_x hH f h, h5, Int.le_of_eq (qGo_e hH f).1.symm⟩
theorem q50_l {S : zS} {m : Int → Int → Int} {b : Int} (h : m 37 50 = b) (hb : 0 ≤ b ∧ b < zm S 37 16) : q50 S m := Or.inr (by rw [h]; exact hb)
theorem q50_z {S : zS} (v : Int) : q50 S (qu (zm S) 37 0 v) := Or.inl (qu_i _ _ _ _ _ (by decide))
theorem qUn_k5 {S : zS} {R : zR} {F : zS → zR} {ps : Nat → Int} (hH : qHC S) (v : Int) (hR : R = some (.inl (some (vi v)), S)) (hF : ∀ m1, (∀ z, z ≠ 102 → m1 z = zm S z) → qHB1 (qW S m1) → ∃ m3, F (qW S m1) = some (.inl (some (vi v)), qW S m3) ∧ qF0 m1 m3 ∧ m3 37 0 = 0 ∧ qHB1 (qW S m3) ∧ q50 S m3) : qUn vi qid (qG5 S) S R F ps := by
  have hC := hH.1.1.2.1.2.1
  refine Or.inl ⟨v, S, hR, ⟨rfl, fun _ _ => rfl⟩, ?_⟩
  obtain ⟨m1, hm1⟩ : ∃ m1, qu (zm S) 102 0 (qid v) = m1 := ⟨_, rfl⟩
  have hq1 : qo S (qid v) = qW S m1 := by rw [← hm1]; rfl
  have f1 : qFq S m1 := by rw [← hm1]; exact qFq_o (qFq_r S) _
  obtain ⟨m3, r, f3, h3, H3, h5⟩ := hF m1 (fun z hz => by rw [← hm1, qu_o _ _ _ _ _ hz]) (qHB1_f (qHB1_0 hH.1) f1)
  have f13 : qFzz S m3 := qFzz_t hC (qFzz_q hC f1) (qF0_z (S := qW S m1) f3)
  refine ⟨qW S m3, by rw [hq1]; exact r, ⟨qFx_lo hC f13.1 1 (by decide) (fun i => by unfold qscf; omega) (fun i => by unfold qsxf; omega), fun _ _ => rfl⟩, h3, ?_, q5_f hH f13.1 (qHC_z hH f13 ⟨qH0_x hH.1.1 f13.1, H3.2⟩) h5⟩
  show m3 102 0 = _
  rw [f3 102 0 (by unfold qfly; omega), ← hm1, qu_s]
theorem qUn_x5 {S : zS} {R : zR} {F : zS → zR} {ps : Nat → Int} (hH : qHC S) (x : Nat) (hR : R = some (.inr x, zbump S)) (hx : ps x ≠ 0) (hF : ∃ m3, F (zbump S) = some (.inl (some (vi 0)), zbump (qW S m3)) ∧ qF0 (zm S) m3 ∧ m3 37 0 = ps x ∧ qHB1 (qW S m3) ∧ q50 S m3) : qUn vi qid (qG5 S) S R F ps := by
  have hC := hH.1.1.2.1.2.1
  obtain ⟨m3, r, f3, h3, H3, h5⟩ := hF
  have f := qF0_z f3
  exact Or.inr ⟨x, 0, zbump S, zbump (qW S m3), hR, ⟨rfl, fun _ _ => rfl⟩, r, ⟨qFx_lo hC f.1 1 (by decide) (fun i => by unfold qscf; omega) (fun i => by unfold qsxf; omega), fun _ _ => rfl⟩, h3, hx, q5_x hH f.1 (qHC_z hH f ⟨qH0_x hH.1.1 f.1, H3.2⟩) h5⟩
theorem qUn_n5 {S : zS} {R : zR} {F : zS → zR} {ps : Nat → Int} {w : Int → Int} (hH : qHC S) (h : qNo ps S R F) : qUn vi w (qG5 S) S R F ps := qUn_no h fun p => q5_x hH (qFx_q (qFq_0 S p)) (qHC_f hH (qFq_0 S p)) (q50_z p)
theorem q50_w {S : zS} {M m : Int → Int → Int} (e : M 37 = zm S 37) (h : q50 (qW S M) m) : q50 S m := by
  have h : m 37 50 = M 37 50 ∨ (0 ≤ m 37 50 ∧ m 37 50 < M 37 16) := h
  rw [e] at h
  exact h
theorem q50_e {S : zS} {m m' : Int → Int → Int} (h : q50 S m) (e : m' 37 50 = m 37 50) : q50 S m' := by
  unfold q50 at *
  rw [e]
  exact h
theorem q50_r (S : zS) : q50 S (zm S) := Or.inl rfl
