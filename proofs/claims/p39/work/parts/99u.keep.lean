/-! What is kept: agreement outside of a set, footprints. -/
def qAg (S S' : zS) (E : Int → Int → Prop) : Prop := qKp S S' ∧ ∀ x j : Int, x < zn S → ¬ E x j → zm S' x j = zm S x j
theorem qAg_w {S : zS} {m : Int → Int → Int} {E : Int → Int → Prop} (h : ∀ x j, ¬ E x j → m x j = zm S x j) : qAg S (qW S m) E := ⟨qKp_w S m, fun x j _ he => h x j he⟩
theorem qAg_f {S : zS} {m : Int → Int → Int} (h : qFq S m) : qAg S (qW S m) (qscr S) := qAg_w h
theorem qAg_g {S S2 : zS} {n c w : Nat} {E : Int → Int → Prop} (h : qGw S S2 n c w E) : qAg S S2 E := ⟨qKp_g h, h.2.2.2.2⟩
theorem qAg_b {S S' : zS} {E : Int → Int → Prop} (h : qAg S S' E) : qAg S (zbump S') E := h
theorem qAg_r {S S' : zS} {E : Int → Int → Prop} (h : qAg S S' E) {x : Int} (hx : x < zn S) (he : ∀ j, ¬ E x j) : zm S' x = zm S x := funext fun j => h.2 x j hx (he j)
theorem qAg_m {S S' : zS} {E F : Int → Int → Prop} (h : qAg S S' E) (hf : ∀ x j, E x j → F x j) : qAg S S' F := ⟨h.1, fun x j hx hn => h.2 x j hx fun z => hn (hf x j z)⟩
/-- an address of one of these kinds is not scratch -/
theorem qns_k {S : zS} (h : qRC S) {x j : Int} (hx : 103 ≤ x) (k1 : zk S x ≠ (1, 17)) (k2 : zk S x ≠ (28, 0)) (k3 : zk S x ≠ (0, 10)) : ¬ qscr S x j := qnd h hx fun c c1 c2 => by
  obtain ⟨-, -, y2, y3, y4, -⟩ := (h.2.2.1 c c1 c2).1
  exact ⟨fun z => k1 (by rw [z]; exact y2), fun z => k2 (by rw [z]; exact y3), fun z => k3 (by rw [z]; exact y4)⟩
/-! pins, the day -/
def qfN (x _j : Int) : Prop := (10 ≤ x ∧ x ≤ 12) ∨ x = 81
theorem qYn_k {S S' : zS} {E : Int → Int → Prop} (h : qYn S) (a : qAg S S' E) (hn : 103 ≤ (zn S : Int)) (he : ∀ x j, qfN x j → ¬ E x j) : qYn S' := fun e p e1 e2 p1 p2 => by
  rw [qAg_r a (x := 81) (by omega) (fun j => he _ _ (by unfold qfN; omega)), qAg_r a (x := 10 + e) (by omega) (fun j => he _ _ (by unfold qfN; omega))]
  exact h e p e1 e2 p1 p2
def qfDy (x j : Int) : Prop := (x = 3 ∧ j = 13) ∨ (x = 37 ∧ j = 3)
theorem qYd_k {S S' : zS} {E : Int → Int → Prop} (h : qYd S) (a : qAg S S' E) (hn : 103 ≤ (zn S : Int)) (he : ∀ x j, qfDy x j → ¬ E x j) : qYd S' := by
  unfold qYd
  rw [a.2 3 13 (by omega) (he _ _ (by unfold qfDy; omega)), a.2 37 3 (by omega) (he _ _ (by unfold qfDy; omega))]
  exact h
/-! wishes -/
def qfW (x j : Int) : Prop := (x = 15 ∧ j = 2) ∨ (x = 37 ∧ j = 80) ∨ x = 16 ∨ x = 17 ∨ x = 93 ∨ x = 94
theorem qYw_k {S S' : zS} {E : Int → Int → Prop} (h : qYw S) (a : qAg S S' E) (hn : 103 ≤ (zn S : Int)) (he : ∀ x j, qfW x j → ¬ E x j) (h76 : zm S 37 76 ≤ zm S' 37 76) (h16 : zm S 37 16 ≤ zm S' 37 16) : qYw S' := by
  obtain ⟨w0, w1, w2⟩ := h
  have e80 : zm S' 37 80 = zm S 37 80 := a.2 37 80 (by omega) (he _ _ (by unfold qfW; omega))
  have e15 : zm S' 15 2 = zm S 15 2 := a.2 15 2 (by omega) (he _ _ (by unfold qfW; omega))
  have r16 : zm S' 16 = zm S 16 := qAg_r a (by omega) fun j => he _ _ (by unfold qfW; omega)
  have r17 : zm S' 17 = zm S 17 := qAg_r a (by omega) fun j => he _ _ (by unfold qfW; omega)
  have r93 : zm S' 93 = zm S 93 := qAg_r a (by omega) fun j => he _ _ (by unfold qfW; omega)
  have r94 : zm S' 94 = zm S 94 := qAg_r a (by omega) fun j => he _ _ (by unfold qfW; omega)
  unfold qYw
  rw [e80, e15, r16, r17, r93, r94]
  refine ⟨w0, fun k k1 k2 => ?_, w2⟩
  obtain ⟨a1, a2, a3, a4⟩ := w1 k k1 k2
  exact ⟨a1, a2, ⟨a3.1, by omega⟩, ⟨a4.1, by omega⟩⟩
/-! copies, so far as the post goes -/
def qfP (S : zS) (x j : Int) : Prop := x = 13 ∨ x = 8 ∨ x = 82 ∨ x = 84 ∨ (86 ≤ x ∧ x ≤ 88) ∨ (x = 3 ∧ j = 9) ∨ (x = 37 ∧ j = 65) ∨ (103 ≤ x ∧ zk S x = (24, 0))
theorem qYp_k {S S' : zS} {E : Int → Int → Prop} (h : qYp S) (a : qAg S S' E) (hn : 103 ≤ (zn S : Int)) (he : ∀ x j, qfP S x j → ¬ E x j) (h76 : zm S 37 76 ≤ zm S' 37 76) (h16 : zm S 37 16 ≤ zm S' 37 16) : qYp S' := by
  obtain ⟨w0, w1, w2⟩ := h
  have e65 : zm S' 37 65 = zm S 37 65 := a.2 37 65 (by omega) (he _ _ (by unfold qfP; omega))
  have e39 : zm S' 3 9 = zm S 3 9 := a.2 3 9 (by omega) (he _ _ (by unfold qfP; omega))
  have r13 : zm S' 13 = zm S 13 := qAg_r a (by omega) fun j => he _ _ (by unfold qfP; omega)
  have r8 : zm S' 8 = zm S 8 := qAg_r a (by omega) fun j => he _ _ (by unfold qfP; omega)
  have r82 : zm S' 82 = zm S 82 := qAg_r a (by omega) fun j => he _ _ (by unfold qfP; omega)
  have r84 : zm S' 84 = zm S 84 := qAg_r a (by omega) fun j => he _ _ (by unfold qfP; omega)
  have r86 : zm S' 86 = zm S 86 := qAg_r a (by omega) fun j => he _ _ (by unfold qfP; omega)
  have r87 : zm S' 87 = zm S 87 := qAg_r a (by omega) fun j => he _ _ (by unfold qfP; omega)
  have r88 : zm S' 88 = zm S 88 := qAg_r a (by omega) fun j => he _ _ (by unfold qfP; omega)
  unfold qYp qNc
  rw [e65, e39, r13, r8, r82, r84, r86, r87, r88]
  refine ⟨w0, fun k k1 k2 => ?_, w2⟩
  obtain ⟨⟨a1, a2, a3⟩, a4, a5, a6, a7, a8, a9, a10, a11⟩ := w1 k k1 k2
  have g1 := a.1.1
  have ex : zm S' (zm S 13 k) = zm S (zm S 13 k) := qAg_r a (by omega) fun j => he _ _ (Or.inr (Or.inr (Or.inr (Or.inr (Or.inr (Or.inr (Or.inr ⟨a2, a1⟩)))))))
  rw [ex]
  refine ⟨⟨by rw [a.1.2 _ (by omega)]; exact a1, a2, by omega⟩, a4, ⟨a5.1, by omega⟩, a6, a7, a8, a9, a10, ?_⟩
  rcases a11 with z | z
  · exact Or.inl z
  · exact Or.inr ⟨⟨z.1.1, by omega⟩, z.2⟩
/-! readers -/
def qYr (S : zS) : Prop := qNr S ∧ (∀ i, 0 ≤ i → i < zm S 37 76 → (zk S (zm S 14 i) = (27, 0) ∧ zk S (zm S 14 i + 1) = (0, 3) ∧ 103 ≤ zm S 14 i ∧ zm S 14 i + 2 ≤ zn S ∧ zm S (zm S 14 i) 1 = zm S 14 i + 1) ∧ zm S (zm S 14 i) 0 = zm S 90 i ∧ (0 ≤ zm S 90 i ∧ zm S 90 i ≤ 2) ∧ zm S (zm S 14 i) 3 = zm S 92 i ∧ (-2147483648 ≤ zm S 92 i ∧ zm S 92 i < 2147483648) ∧ (∀ c, 0 ≤ c → c < 3 → zm S (zm S 14 i + 1) c = zm S 91 (3 * i + c) ∧ 0 ≤ zm S 91 (3 * i + c) ∧ zm S 91 (3 * i + c) < 16777216)) ∧ (∀ i k, 0 ≤ i → i < k → k < zm S 37 76 → zm S 14 i ≠ zm S 14 k) ∧ ∀ i, zm S 37 76 ≤ i → i < 6 → zm S 92 i = 0 ∧ ∀ c, 0 ≤ c → c < 3 → zm S 91 (3 * i + c) = 0
/-- lent: as many as the copies that the reader has -/
def qYh (S : zS) : Prop := ∀ i, 0 ≤ i → i < zm S 37 76 → zm S (zm S 14 i) 2 = qhl (zm S) i (-1) (zm S 37 65).toNat
def qfR (S : zS) (x j : Int) : Prop := x = 14 ∨ (90 ≤ x ∧ x ≤ 92) ∨ (x = 3 ∧ j = 11) ∨ (x = 37 ∧ j = 76) ∨ (103 ≤ x ∧ (zk S x = (27, 0) ∧ j ≠ 2 ∨ zk S x = (0, 3)))
theorem qYr_k {S S' : zS} {E : Int → Int → Prop} (h : qYr S) (a : qAg S S' E) (hn : 103 ≤ (zn S : Int)) (he : ∀ x j, qfR S x j → ¬ E x j) : qYr S' := by
  obtain ⟨w0, w1, w2, w3⟩ := h
  have e76 : zm S' 37 76 = zm S 37 76 := a.2 37 76 (by omega) (he _ _ (by unfold qfR; omega))
  have e11 : zm S' 3 11 = zm S 3 11 := a.2 3 11 (by omega) (he _ _ (by unfold qfR; omega))
  have r14 : zm S' 14 = zm S 14 := qAg_r a (by omega) fun j => he _ _ (by unfold qfR; omega)
  have r90 : zm S' 90 = zm S 90 := qAg_r a (by omega) fun j => he _ _ (by unfold qfR; omega)
  have r91 : zm S' 91 = zm S 91 := qAg_r a (by omega) fun j => he _ _ (by unfold qfR; omega)
  have r92 : zm S' 92 = zm S 92 := qAg_r a (by omega) fun j => he _ _ (by unfold qfR; omega)
  unfold qYr qNr
  rw [e76, e11, r14, r90, r91, r92]
  refine ⟨w0, fun i i1 i2 => ?_, w2, w3⟩
  obtain ⟨⟨a1, a2, a3, a4, a5⟩, a6, a7, a8, a9, a10⟩ := w1 i i1 i2
  have g1 := a.1.1
  have ex : ∀ j, j ≠ 2 → zm S' (zm S 14 i) j = zm S (zm S 14 i) j := fun j hj => a.2 _ _ (by omega) (he _ _ (Or.inr (Or.inr (Or.inr (Or.inr ⟨a3, Or.inl ⟨a1, hj⟩⟩)))))
  have ey : zm S' (zm S 14 i + 1) = zm S (zm S 14 i + 1) := qAg_r a (by omega) fun j => he _ _ (Or.inr (Or.inr (Or.inr (Or.inr ⟨by omega, Or.inr a2⟩))))
  rw [ex 0 (by decide), ex 1 (by decide), ex 3 (by decide), ey]
  exact ⟨⟨by rw [a.1.2 _ (by omega)]; exact a1, by rw [a.1.2 _ (by omega)]; exact a2, a3, by omega, a5⟩, a6, a7, a8, a9, a10⟩
theorem qhl_e {m m' : Int → Int → Int} (h1 : m' 86 = m 86) (h2 : m' 82 = m 82) (r b : Int) : ∀ k, qhl m' r b k = qhl m r b k := by
  intro k
  induction k with
  | zero => rfl
  | succ k ih => rw [qhl, qhl, ih, h1, h2]
def qfH (S : zS) (x j : Int) : Prop := x = 14 ∨ x = 86 ∨ x = 82 ∨ (x = 37 ∧ (j = 76 ∨ j = 65)) ∨ (103 ≤ x ∧ zk S x = (27, 0) ∧ j = 2)
theorem qYh_k {S S' : zS} {E : Int → Int → Prop} (hr : qYr S) (h : qYh S) (a : qAg S S' E) (hn : 103 ≤ (zn S : Int)) (he : ∀ x j, qfH S x j → ¬ E x j) : qYh S' := fun i i1 i2 => by
  have e76 : zm S' 37 76 = zm S 37 76 := a.2 37 76 (by omega) (he _ _ (by unfold qfH; omega))
  rw [e76] at i2
  have e65 : zm S' 37 65 = zm S 37 65 := a.2 37 65 (by omega) (he _ _ (by unfold qfH; omega))
  obtain ⟨⟨a1, a2, a3, a4, -⟩, -⟩ := hr.2.1 i i1 i2
  have r14 : zm S' 14 = zm S 14 := qAg_r a (by omega) fun j => he _ _ (by unfold qfH; omega)
  rw [r14, e65, a.2 _ _ (by omega) (he _ _ (Or.inr (Or.inr (Or.inr (Or.inr ⟨a3, a1, rfl⟩))))), qhl_e (qAg_r a (by omega) fun j => he _ _ (by unfold qfH; omega)) (qAg_r a (by omega) fun j => he _ _ (by unfold qfH; omega))]
  exact h i i1 i2
/-- all of the post -/
def qPo (S : zS) : Prop := qYn S ∧ qYd S ∧ qYw S ∧ qYp S ∧ qYr S ∧ qYh S
theorem qPo_f {S : zS} {m : Int → Int → Int} (hC : qRC S) (h : qPo S) (hf : qFq S m) (hn : 103 ≤ (zn S : Int)) : qPo (qW S m) := by
  obtain ⟨h1, h2, h3, h4, h5, h6⟩ := h
  have a := qAg_f hf
  have lo : ∀ x j : Int, x ≤ 102 → ¬ qscf x j → ¬ qscr S x j := fun x j hx hs => qns hC hx hs
  have e76 : zm (qW S m) 37 76 = zm S 37 76 := hf 37 76 (lo _ _ (by decide) (by unfold qscf; omega))
  have e16 : zm (qW S m) 37 16 = zm S 37 16 := hf 37 16 (lo _ _ (by decide) (by unfold qscf; omega))
  refine ⟨qYn_k h1 a hn fun x j q => ?_, qYd_k h2 a hn fun x j q => ?_, qYw_k h3 a hn (fun x j q => ?_) (by omega) (by omega), qYp_k h4 a hn (fun x j q => ?_) (by omega) (by omega), qYr_k h5 a hn fun x j q => ?_, qYh_k h5 h6 a hn fun x j q => ?_⟩
  · unfold qfN at q
    exact lo x j (by omega) (by unfold qscf; omega)
  · unfold qfDy at q
    exact lo x j (by omega) (by unfold qscf; omega)
  · unfold qfW at q
    exact lo x j (by omega) (by unfold qscf; omega)
  · unfold qfP at q
    by_cases c : 103 ≤ x ∧ zk S x = (24, 0)
    · exact qns_k hC c.1 (by rw [c.2]; decide) (by rw [c.2]; decide) (by rw [c.2]; decide)
    · simp only [c, or_false] at q
      exact lo x j (by omega) (by unfold qscf; omega)
  · unfold qfR at q
    by_cases c : 103 ≤ x ∧ (zk S x = (27, 0) ∧ j ≠ 2 ∨ zk S x = (0, 3))
    · rcases c.2 with c2 | c2
      · exact qns_k hC c.1 (by rw [c2.1]; decide) (by rw [c2.1]; decide) (by rw [c2.1]; decide)
      · exact qns_k hC c.1 (by rw [c2]; decide) (by rw [c2]; decide) (by rw [c2]; decide)
    · simp only [c, or_false] at q
      exact lo x j (by omega) (by unfold qscf; omega)
  · unfold qfH at q
    by_cases c : 103 ≤ x ∧ zk S x = (27, 0) ∧ j = 2
    · exact qns_k hC c.1 (by rw [c.2.1]; decide) (by rw [c.2.1]; decide) (by rw [c.2.1]; decide)
    · simp only [c, or_false] at q
      exact lo x j (by omega) (by unfold qscf; omega)
