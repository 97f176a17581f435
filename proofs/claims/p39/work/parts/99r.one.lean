/-! One call: from what is known of each question to the law's case. -/
theorem qUn_a {g : Int → zV} {w : Int → Int} {ps : Nat → Int} {S : zS} {R : zR} {F : zS → zR} {Q : zS → Prop} (hC : qRC S) (h : qAsk g S R F ps) (hQ : ∀ m2, qFq S m2 → Q (qW S m2)) (hQx : ∀ m2, qFq S m2 → Q (zbump (qW S m2))) : qUn g w Q S R F ps := by
  rcases h with ⟨v, m1, r, e1, hF⟩ | ⟨x, v, m1, m2, r, e1, f, h0, hx, q⟩
  · obtain ⟨m2, f, h0, h2, q⟩ := hF (w v)
    exact Or.inl ⟨v, qW S m1, r, ⟨e1, fun _ _ => rfl⟩, qW S m2, f, ⟨qFq_1 hC q, fun _ _ => rfl⟩, h0, h2, hQ m2 q⟩
  · exact Or.inr ⟨x, v, zbump (qW S m1), zbump (qW S m2), r, ⟨e1, fun _ _ => rfl⟩, f, ⟨qFq_1 hC q, fun _ _ => rfl⟩, h0, hx, hQx m2 q⟩
theorem qUn_a0 {S : zS} {R : zR} {F : zS → zR} {Q : zS → Prop} (hC : qRC S) (h : qAsk0 S R F) (hQ : ∀ m2, qFq S m2 → Q (qW S m2)) : qUn0 Q S R F := by
  obtain ⟨v, m1, m2, r, e1, f, -, q⟩ := h
  exact ⟨v, qW S m1, qW S m2, r, ⟨e1, fun _ _ => rfl⟩, f, ⟨qFq_1 hC q, fun _ _ => rfl⟩, hQ m2 q⟩
theorem qUn_w {ps : Nat → Int} {S : zS} {R : zR} {F : zS → zR} {Q : zS → Prop} {Q0 : (Int → Int → Int) → Prop} (hC : qRC S) (h : qAskW Q0 S R F ps) (h1 : ∀ m2, Q0 m2 → m2 1 = zm S 1) (hQ : ∀ m2, Q0 m2 → Q (qW S m2)) (hQx : ∀ m2, qFq S m2 → Q (zbump (qW S m2))) : qUn vi qid Q S R F ps := by
  rcases h with ⟨v, m1, r, e1, hF⟩ | ⟨x, v, m1, m2, r, e1, f, h0, hx, q⟩
  · obtain ⟨m2, f, h0, h2, q⟩ := hF (qid v)
    exact Or.inl ⟨v, qW S m1, r, ⟨e1, fun _ _ => rfl⟩, qW S m2, f, ⟨h1 m2 q, fun _ _ => rfl⟩, h0, h2, hQ m2 q⟩
  · exact Or.inr ⟨x, v, zbump (qW S m1), zbump (qW S m2), r, ⟨e1, fun _ _ => rfl⟩, f, ⟨qFq_1 hC q, fun _ _ => rfl⟩, h0, hx, hQx m2 q⟩
theorem qUn_w0 {S : zS} {R : zR} {F : zS → zR} {Q : zS → Prop} {Q0 : (Int → Int → Int) → Prop} (h : qAskW0 Q0 S R F) (h1 : ∀ m2, Q0 m2 → m2 1 = zm S 1) (hQ : ∀ m2, Q0 m2 → Q (qW S m2)) : qUn0 Q S R F := by
  obtain ⟨v, m1, m2, r, e1, f, -, q⟩ := h
  exact ⟨v, qW S m1, qW S m2, r, ⟨e1, fun _ _ => rfl⟩, f, ⟨h1 m2 q, fun _ _ => rfl⟩, hQ m2 q⟩
theorem qUn_n {ps : Nat → Int} {S : zS} {R : zR} {F : zS → zR} {Q Q0 Q0x : zS → Prop} (h : qAskN Q0 Q0x S R F ps) (hk : ∀ S2, Q0 S2 → qKs S S2) (hkx : ∀ S2, Q0x S2 → qKs S S2) (hQ : ∀ S2, Q0 S2 → Q S2) (hQx : ∀ S2, Q0x S2 → Q S2) : qUn vi qid Q S R F ps := by
  rcases h with ⟨v, S1, r, k1, hF⟩ | ⟨x, v, S1, S2, r, k1, f, h0, hx, q⟩
  · obtain ⟨S2, f, h0, h2, q⟩ := hF (qid v)
    exact Or.inl ⟨v, S1, r, k1, S2, f, hk S2 q, h0, h2, hQ S2 q⟩
  · exact Or.inr ⟨x, v, S1, S2, r, k1, f, hkx S2 q, h0, hx, hQx S2 q⟩
theorem qFtp_1 {S : zS} {m2 : Int → Int → Int} (h : qFtp S m2) : m2 1 = zm S 1 := funext fun j => h 1 j (by omega)
theorem qGw_k {S S2 : zS} {n c w : Nat} {E : Int → Int → Prop} (h : qGw S S2 n c w E) (hn : 103 ≤ (zn S : Int)) (h1 : ∀ j, ¬ E 1 j) : qKs S S2 := ⟨funext fun j => h.2.2.2.2 1 j (by omega) (h1 j), fun x hx => h.2.2.2.1 x (by omega)⟩
/-- what a call costs -/
def qBu (S S2 : zS) : Prop := zc S2 ≤ zc S + 500 ∧ zw S2 ≤ zw S + 2000
theorem qBu_w (S : zS) (m : Int → Int → Int) : qBu S (qW S m) := ⟨by rw [qcW]; omega, by rw [qwW]; omega⟩
theorem qBu_x (S : zS) (m : Int → Int → Int) : qBu S (zbump (qW S m)) := ⟨by show zc S + 1 ≤ _; omega, by show zw S + 6 ≤ _; omega⟩
theorem qBu_g {S S2 : zS} {n c w : Nat} {E : Int → Int → Prop} (h : qGw S S2 n c w E) (hc : c ≤ 100) (hw : w ≤ 100) : qBu S S2 := ⟨by have := h.2.1; omega, by have := h.2.2.1; omega⟩
theorem q_divx {S S2 : zS} (hn : 103 ≤ (zn S : Int)) (hC : qRC S) (q : ∃ T m2, S2 = zbump (qW T m2) ∧ (T = S ∨ qGw S T 3 3 18 fun _ _ => False) ∧ qFq T m2) : qKs S S2 := by
  obtain ⟨T, m2, rfl, h, f⟩ := q
  rcases h with rfl | h
  · exact ⟨qFq_1 hC f, fun _ _ => rfl⟩
  · have e1 : zm T 1 = zm S 1 := funext fun j => h.2.2.2.2 1 j (by omega) fun z => z
    have e4 : zm T 37 4 = zm S 37 4 := h.2.2.2.2 37 4 (by omega) fun z => z
    have e6 : ∀ c, zm T 6 c = zm S 6 c := fun c => h.2.2.2.2 6 c (by omega) fun z => z
    refine ⟨?_, fun x hx => h.2.2.2.1 x (by omega)⟩
    show m2 1 = zm S 1
    rw [← e1]
    funext j
    refine f 1 j fun z => ?_
    rcases z with z | ⟨c, c1, c2, z⟩
    · unfold qscf at z; omega
    · rw [e4] at c2
      rw [e6] at z
      have := (hC.2.2.1 c c1 c2).1.2.2.2.2.2.2.2.2.2.1
      omega
theorem q_divb {S S2 : zS} (q : ∃ T m2, S2 = zbump (qW T m2) ∧ (T = S ∨ qGw S T 3 3 18 fun _ _ => False) ∧ qFq T m2) : qBu S S2 := by
  obtain ⟨T, m2, rfl, h, -⟩ := q
  rcases h with rfl | h
  · exact qBu_x T m2
  · have a := h.2.1
    have b := h.2.2.1
    exact ⟨by show zc T + 1 ≤ _; omega, by show zw T + 6 ≤ _; omega⟩
/-- a house that is new -/
def qNew (S : zS) : Prop := (qK S ∧ qP (zm S) ∧ qLt (zm S) ∧ qRT S ∧ qRC S ∧ qRD S ∧ qBh S ∧ qYn S) ∧ (zm S 37 4 = 0 ∧ qNb S ∧ qNc S ∧ qNr S ∧ zm S 37 16 = 0 ∧ zm S 37 65 = 0 ∧ zm S 37 76 = 0) ∧ (zm S 3 13 = 0 ∧ zm S 37 3 = 0 ∧ zm S 37 73 = 0) ∧ 103 ≤ (zn S : Int)
