/-! What is known of a book and its words, on both sides. -/
def qWw (S : zS) (b j y : Int) (L E : List Int) (ah U M : Int) : Prop := ∃ (W : List Int) (dg st bg mk c N g : Int) (T : Int → Int → Int) (p : Nat), ((qWr (zm S) (80 * b + j) W dg st bg mk ∧ qWk2 W dg st bg mk ∧ zm S 61 (80 * b + j) = ah) ∧ (zm S 49 b = c ∧ zm S 50 b = g ∧ qRc (zm S) c N T ∧ qTok T N) ∧ (qPw (zm S) W dg = (p : Int) ∧ (p = 0 ∨ qPk p W.length) ∧ (qpl (p : Int) W.length W.length).length ≤ 4) ∧ L = qwL T N g W p dg st bg (qmc mk) ∧ E = qwE T N g W p dg st bg ∧ U = qwU T N g W p dg ∧ M = qwM T N g W p dg ∧ (ah = 0 ∨ ah = 1 ∨ ah = 2)) ∧ qWb S y ∧ qSq (zm S) (y + 1) (y + 2) W st dg bg (qmc mk) ∧ qWp (zm S) (y + 3) (y + 4) (y + 5) L M U E
theorem qWw_d {S : zS} {b j y : Int} {L E : List Int} {ah U M : Int} (h : qWw S b j y L E ah U M) : qWdo (zm S) b j L E ah U M := by
  obtain ⟨W, dg, st, bg, mk, c, N, g, T, p, h1, -⟩ := h
  exact ⟨W, dg, st, bg, mk, c, N, g, T, p, h1⟩
theorem qWw_b {S : zS} {b j y : Int} {L E : List Int} {ah U M : Int} (h : qWw S b j y L E ah U M) : qWb S y ∧ qWp (zm S) (y + 3) (y + 4) (y + 5) L M U E := by
  obtain ⟨W, dg, st, bg, mk, c, N, g, T, p, -, h2, -, h4⟩ := h
  exact ⟨h2, h4⟩
theorem qWb_w {S S' : zS} {y : Int} (h : qWb S y) (g : qKp S S') (e : ∀ z, y ≤ z → z ≤ y + 5 → zm S' z = zm S z) : qWb S' y := by
  obtain ⟨⟨a0, a1, a2, a3, a4, a5⟩, ⟨b0, b1, b2, b3, b4⟩, h1, h2⟩ := h
  obtain ⟨g1, g2⟩ := g
  exact ⟨⟨by rw [g2 _ (by omega)]; exact a0, by rw [g2 _ (by omega)]; exact a1, by rw [g2 _ (by omega)]; exact a2, by rw [g2 _ (by omega)]; exact a3, by rw [g2 _ (by omega)]; exact a4, by rw [g2 _ (by omega)]; exact a5⟩, ⟨by rw [e y (by omega) (by omega)]; exact b0, by rw [e (y + 1) (by omega) (by omega)]; exact b1, by rw [e y (by omega) (by omega)]; exact b2, by rw [e (y + 3) (by omega) (by omega)]; exact b3, by rw [e (y + 3) (by omega) (by omega)]; exact b4⟩, h1, by omega⟩
theorem qSq_o {m m' : Int → Int → Int} {a b : Int} {L : List Int} {st dg bg mk : Int} (h : qSq m a b L st dg bg mk) (h1 : m' a = m a) (h2 : m' b = m b) : qSq m' a b L st dg bg mk := by
  unfold qSq qA at *
  rw [h1, h2]
  exact h
/-- the reference's rows for a word are kept -/
def qKr (m m' : Int → Int → Int) (b j : Int) : Prop := (∀ x, 49 ≤ x → x ≤ 50 → m' x b = m x b) ∧ (∀ x, (55 ≤ x ∧ x ≤ 57) ∨ (59 ≤ x ∧ x ≤ 61) → m' x (80 * b + j) = m x (80 * b + j)) ∧ ∀ i, 0 ≤ i → i < 10 → m' 58 (10 * (80 * b + j) + i) = m 58 (10 * (80 * b + j) + i)
theorem qWr_k {m m' : Int → Int → Int} {b j : Int} {W : List Int} {dg st bg mk : Int} (h : qWr m (80 * b + j) W dg st bg mk) (hW : W.length ≤ 10) (f : qKr m m' b j) : qWr m' (80 * b + j) W dg st bg mk := by
  obtain ⟨h1, h2, h3, h4, h5, h6⟩ := h
  obtain ⟨-, f2, f3⟩ := f
  exact ⟨by rw [f2 55 (by decide), h1], by rw [f2 56 (by decide), h2], by rw [f2 57 (by decide), h3], by rw [f2 59 (by decide), h4], by rw [f2 60 (by decide), h5], fun i i1 i2 => by rw [f3 i i1 (by omega)]; exact h6 i i1 i2⟩
theorem qWw_w {S S' : zS} {b j y : Int} {L E : List Int} {ah U M : Int} (h : qWw S b j y L E ah U M) (g : qKp S S') (hr : qKr (zm S) (zm S') b j) (hc : ∀ N T, qRc (zm S) (zm S 49 b) N T → qRc (zm S') (zm S 49 b) N T) (hp : ∀ W dg, qPw (zm S') W dg = qPw (zm S) W dg) (e : ∀ z, y ≤ z → z ≤ y + 5 → zm S' z = zm S z) : qWw S' b j y L E ah U M := by
  obtain ⟨W, dg, st, bg, mk, c, N, g', T, p, ⟨⟨w1, w2, w3⟩, ⟨v1, v2, rc, tk⟩, ⟨p1, p2, p3⟩, r⟩, h2, h3, h4⟩ := h
  refine ⟨W, dg, st, bg, mk, c, N, g', T, p, ⟨⟨qWr_k w1 w2.1.2 hr, w2, by rw [hr.2.1 61 (by decide)]; exact w3⟩, ⟨by rw [hr.1 49 (by decide) (by decide)]; exact v1, by rw [hr.1 50 (by decide) (by decide)]; exact v2, by rw [← v1]; rw [← v1] at rc; exact hc N T rc, tk⟩, ⟨by rw [hp]; exact p1, p2, p3⟩, r⟩, qWb_w h2 g e, qSq_o h3 (e _ (by omega) (by omega)) (e _ (by omega) (by omega)), qWp_o h4 (e _ (by omega) (by omega)) (e _ (by omega) (by omega)) (e _ (by omega) (by omega))⟩
theorem qBw_w {m m' : Int → Int → Int} {y t : Int} {s : qZs} {k : Int} (h : qBw m y t s k) (e : m' y = m y) : qBw m' y t s k := by
  unfold qBw at *
  rw [e]
  exact h
/-- a book and its words, but for what lies laid out -/
def qB0 (S : zS) (b x w t : Int) (J : Nat) (fL fE : Nat → List Int) (fA fU fM : Nat → Int) (P l : Int) : Prop :=
  (zm S 54 b = (J : Int) ∧ J ≤ 80 ∧ (0 < J → fA 0 = 1)) ∧ (∀ j : Nat, j < J → qWw S b j (zm S (x + 1) j) (fL j) (fE j) (fA j) (fU j) (fM j) ∧ qBw (zm S) (zm S (x + 1) j) t (qZp w t fL fE fA j).1 (qZp w t fL fE fA j).2) ∧ qCB (zm S) x w t (qZn w t fL fE fA J) P l
/-- what lies laid out -/
def qBl (m : Int → Int → Int) (b w t : Int) (J : Nat) (fL fE : Nat → List Int) (fA fU fM : Nat → Int) : Prop := m 37 50 = b → m 37 51 ≤ (J : Int) ∧ (m 37 51 = (J : Int) → qZc m w t fL fE fA fU fM J)
def qBB (S : zS) (b : Int) : Prop := ∃ (J : Nat) (fL fE : Nat → List Int) (fA fU fM : Nat → Int) (P l : Int), qB0 S b (zm S 8 b) (zm S 51 b) (zm S 52 b) J fL fE fA fU fM P l ∧ qBl (zm S) b (zm S 51 b) (zm S 52 b) J fL fE fA fU fM
/-- where a book and its words lie -/
def qfb (S : zS) (b x z i : Int) : Prop := (z = x ∧ i ≠ 13 ∧ i ≠ 14 ∧ i ≠ 15) ∨ z = x + 1 ∨ z = x + 2 ∨ ∃ j, 0 ≤ j ∧ j < zm S 54 b ∧ zm S (x + 1) j ≤ z ∧ z ≤ zm S (x + 1) j + 5
theorem qB0_w {S S' : zS} {b x w t : Int} {J : Nat} {fL fE : Nat → List Int} {fA fU fM : Nat → Int} {P l : Int} (h : qB0 S b x w t J fL fE fA fU fM P l) (g : qKp S S') (h54 : zm S' 54 b = zm S 54 b) (hr : ∀ j : Int, 0 ≤ j → j < zm S 54 b → qKr (zm S) (zm S') b j) (hc : ∀ N T, qRc (zm S) (zm S 49 b) N T → qRc (zm S') (zm S 49 b) N T) (hp : ∀ W dg, qPw (zm S') W dg = qPw (zm S) W dg) (e : ∀ z i, qfb S b x z i → zm S' z i = zm S z i) : qB0 S' b x w t J fL fE fA fU fM P l := by
  obtain ⟨⟨a1, a2, a3⟩, a4, a5⟩ := h
  have e1 : zm S' (x + 1) = zm S (x + 1) := funext fun i => e _ i (Or.inr (Or.inl rfl))
  have e2 : zm S' (x + 2) = zm S (x + 2) := funext fun i => e _ i (Or.inr (Or.inr (Or.inl rfl)))
  refine ⟨⟨by rw [h54]; exact a1, a2, a3⟩, fun j hj => ?_, qCB_o a5 (fun i hi => e x i (Or.inl ⟨rfl, by omega, by omega, by omega⟩)) e2⟩
  obtain ⟨w1, w2⟩ := a4 j hj
  rw [e1]
  have ez : ∀ z, zm S (x + 1) j ≤ z → z ≤ zm S (x + 1) j + 5 → zm S' z = zm S z := fun z z1 z2 => funext fun i => e z i (Or.inr (Or.inr (Or.inr ⟨j, by omega, by omega, z1, z2⟩)))
  exact ⟨qWw_w w1 g (hr j (by omega) (by omega)) hc hp ez, qBw_w w2 (ez _ (by omega) (by omega))⟩
theorem qZc_e {m m' : Int → Int → Int} {w t : Int} {fL fE : Nat → List Int} {fA fU fM : Nat → Int} {J : Nat} (h : qZc m w t fL fE fA fU fM J) (h1 : ∀ x, 71 ≤ x → x ≤ 80 → m' x = m x) (h2 : m' 37 53 = m 37 53) (h3 : m' 37 63 = m 37 63) : qZc m' w t fL fE fA fU fM J := by
  obtain ⟨a1, a2, a3⟩ := h
  exact ⟨qZR_e a1 h2 (h1 71 (by decide) (by decide)) (h1 72 (by decide) (by decide)), fun i hi => qZi_e (a2 i hi) fun x x1 x2 => by rw [h1 x (by omega) x2], by rw [h3]; exact a3⟩
theorem qBl_e {m m' : Int → Int → Int} {b w t : Int} {J : Nat} {fL fE : Nat → List Int} {fA fU fM : Nat → Int} (h : qBl m b w t J fL fE fA fU fM) (h1 : ∀ x, 71 ≤ x → x ≤ 80 → m' x = m x) (h2 : m' 37 53 = m 37 53) (h3 : m' 37 63 = m 37 63) (h4 : m' 37 50 = m 37 50) (h5 : m' 37 51 = m 37 51) : qBl m' b w t J fL fE fA fU fM := fun q => by
  rw [h4] at q
  obtain ⟨a1, a2⟩ := h q
  rw [h5]
  exact ⟨a1, fun q2 => qZc_e (a2 q2) h1 h2 h3⟩
/-- all that a book and its words rest on -/
def qfBB (S : zS) (b z i : Int) : Prop := z = 8 ∨ (39 ≤ z ∧ z ≤ 61) ∨ (71 ≤ z ∧ z ≤ 80) ∨ (z = 37 ∧ (i = 12 ∨ i = 50 ∨ i = 51 ∨ i = 53 ∨ i = 63)) ∨ qfb S b (zm S 8 b) z i
theorem qBB_k {S S' : zS} {b : Int} {E : Int → Int → Prop} (h : qBB S b) (a : qAg S S' E) (hn : 103 ≤ (zn S : Int)) (hx : 103 ≤ zm S 8 b ∧ zm S 8 b + 3 ≤ zn S) (he : ∀ z i, qfBB S b z i → ¬ E z i) : qBB S' b := by
  obtain ⟨J, fL, fE, fA, fU, fM, P, l, h0, h1⟩ := h
  have lo : ∀ z, z = 8 ∨ (39 ≤ z ∧ z ≤ 61) ∨ (71 ≤ z ∧ z ≤ 80) → zm S' z = zm S z := fun z hz => qAg_r a (by omega) fun i => he z i (by unfold qfBB; omega)
  have l3 : ∀ i, i = 12 ∨ i = 50 ∨ i = 51 ∨ i = 53 ∨ i = 63 → zm S' 37 i = zm S 37 i := fun i hi => a.2 37 i (by omega) (he 37 i (by unfold qfBB; omega))
  refine ⟨J, fL, fE, fA, fU, fM, P, l, ?_, ?_⟩
  · rw [lo 8 (by omega), lo 51 (by omega), lo 52 (by omega)]
    refine qB0_w h0 a.1 (by rw [lo 54 (by omega)]) (fun j j1 j2 => ⟨fun x x1 x2 => by rw [lo x (by omega)], fun x hx => by rw [lo x (by omega)], fun i i1 i2 => by rw [lo 58 (by omega)]⟩) (fun N T rc => qRc_f rc fun x x1 x2 => lo x (by omega)) (fun W dg => qPw_e (l3 12 (by omega)) (lo 46 (by omega)) (lo 47 (by omega)) (lo 48 (by omega)) W dg) fun z i hz => a.2 z i ?_ (he z i (Or.inr (Or.inr (Or.inr (Or.inr hz)))))
    rcases hz with q | q | q | ⟨j, j1, j2, z1, z2⟩
    · omega
    · omega
    · omega
    · obtain ⟨⟨e1, -⟩, a4, -⟩ := h0
      obtain ⟨w1, -⟩ := a4 j.toNat (by omega)
      rw [show ((j.toNat : Nat) : Int) = j by omega] at w1
      have := (qWw_b w1).1.2.2
      omega
  · rw [lo 51 (by omega), lo 52 (by omega)]
    exact qBl_e h1 (fun x x1 x2 => lo x (by omega)) (l3 53 (by omega)) (l3 63 (by omega)) (l3 50 (by omega)) (l3 51 (by omega))
/-- all books -/
def qYB (S : zS) : Prop := qYb S ∧ ∀ b, 0 ≤ b → b < zm S 37 16 → qBB S b
theorem qBs_x {S : zS} {x i : Int} (h : qBs S x i) : (103 ≤ x ∧ x + 3 ≤ zn S) ∧ qBk S x (zm S 51 i) (zm S 52 i) := by
  obtain ⟨⟨a1, a2, a3, a4, a5⟩, -, -, ⟨-, c3⟩, ⟨-, c4⟩, -⟩ := h
  exact ⟨⟨a4, a5⟩, ⟨a1, a3⟩, c3, c4, a4⟩
/-- a word's place isn't a code's scratch -/
theorem qfb_s {S : zS} (hC : qRC S) {b z i : Int} (hs : qBs S (zm S 8 b) b) (hb : qBB S b) (hz : qfb S b (zm S 8 b) z i) : ¬ qscr S z i := by
  obtain ⟨⟨a1, a2, a3, a4, a5⟩, -⟩ := hs
  have cd := fun c c1 c2 => (hC.2.2.1 c c1 c2).1
  rcases hz with ⟨q, -⟩ | q | q | ⟨j, j1, j2, z1, z2⟩
  · rw [q]
    exact qns_k hC a4 (by rw [a1]; decide) (by rw [a1]; decide) (by rw [a1]; decide)
  · rw [q]
    exact qns_k hC (by omega) (by rw [a2]; decide) (by rw [a2]; decide) (by rw [a2]; decide)
  · rw [q]
    exact qns_k hC (by omega) (by rw [a3]; simp) (by rw [a3]; simp) (by rw [a3]; simp)
  · obtain ⟨J, fL, fE, fA, fU, fM, P, l, ⟨⟨e1, -⟩, w, -⟩, -⟩ := hb
    obtain ⟨w1, -⟩ := w j.toNat (by omega)
    rw [show ((j.toNat : Nat) : Int) = j by omega] at w1
    obtain ⟨⟨⟨k0, k1, k2, k3, k4, k5⟩, -, y1, y2⟩, -⟩ := qWw_b w1
    generalize zm S (zm S 8 b + 1) j = y at *
    refine qnd hC (by omega) fun c c1 c2 => ?_
    obtain ⟨d0, d1, d2, d3, d4, -⟩ := cd c c1 c2
    have n0 : y ≠ zm S 6 c + 2 := qkne k0 d2 (by decide)
    have n3 : y ≠ zm S 6 c + 3 := qkne k0 d3 (by decide)
    have n4 : y ≠ zm S 6 c + 4 := qkne k0 d4 (by decide)
    have m1 : y + 1 ≠ zm S 6 c + 2 := qkne k1 d2 (by decide)
    have m4 : y + 1 ≠ zm S 6 c + 4 := qkne k1 d4 (by decide)
    have m2 : y + 2 ≠ zm S 6 c + 2 := qkne k2 d2 (by decide)
    have m3 : y + 2 ≠ zm S 6 c + 3 := qkne k2 d3 (by decide)
    have p2 : y + 3 ≠ zm S 6 c + 2 := qkne k3 d2 (by decide)
    have p3 : y + 3 ≠ zm S 6 c + 3 := qkne k3 d3 (by decide)
    have p4 : y + 3 ≠ zm S 6 c + 4 := qkne k3 d4 (by decide)
    have r2 : y + 4 ≠ zm S 6 c + 2 := qkne k4 d2 (by decide)
    have r3 : y + 4 ≠ zm S 6 c + 3 := qkne k4 d3 (by decide)
    have r4 : y + 4 ≠ zm S 6 c + 4 := qkne k4 d4 (by decide)
    have s2 : y + 5 ≠ zm S 6 c + 2 := qkne k5 d2 (by decide)
    have s3 : y + 5 ≠ zm S 6 c + 3 := qkne k5 d3 (by decide)
    have s4 : y + 5 ≠ zm S 6 c + 4 := qkne k5 d4 (by decide)
    clear w cd
    have hz : z = y ∨ z = y + 1 ∨ z = y + 2 ∨ z = y + 3 ∨ z = y + 4 ∨ z = y + 5 := by omega
    rcases hz with rfl | rfl | rfl | rfl | rfl | rfl
    · exact ⟨n0, n3, n4⟩
    · exact ⟨m1, fun q => n0 (by omega), m4⟩
    · exact ⟨m2, m3, fun q => n0 (by omega)⟩
    · exact ⟨p2, p3, p4⟩
    · exact ⟨r2, r3, r4⟩
    · exact ⟨s2, s3, s4⟩
theorem qYB_f {S : zS} {m : Int → Int → Int} (hC : qRC S) (h : qYB S) (hf : qFq S m) (hn : 103 ≤ (zn S : Int)) : qYB (qW S m) := by
  obtain ⟨h1, h2⟩ := h
  have lo : ∀ x j : Int, x ≤ 102 → ¬ qscf x j → ¬ qscr S x j := fun x j hx hs => qns hC hx hs
  refine ⟨qYb_f hC h1 hf hn, fun b b1 b2 => ?_⟩
  have b2 : b < m 37 16 := b2
  rw [hf 37 16 (lo _ _ (by decide) (by unfold qscf; omega))] at b2
  have hs := h1.2.1 b b1 b2
  have hb := h2 b b1 b2
  refine qBB_k hb (qAg_f hf) hn (qBs_x hs).1 fun z i q => ?_
  rcases q with q | q | q | q | q
  · exact lo z i (by omega) (by unfold qscf; omega)
  · exact lo z i (by omega) (by unfold qscf; omega)
  · exact lo z i (by omega) (by unfold qscf; omega)
  · exact lo z i (by omega) (by unfold qscf; omega)
  · exact qfb_s hC hs hb q
