/-! What stays true of a house: contractions' cells are free ones; a copy that is out has been sent. -/
def hFr (m : Int → Int → Int) : Prop := ∀ c k, 0 ≤ c → c < m 37 4 → 0 ≤ k → k < m 39 c → qfre (qTm m c 3 k) ∧ (qTm m c 4 k = 0 ∨ qfre (qTm m c 4 k))
def hSn (m : Int → Int → Int) : Prop := ∀ k, 0 ≤ k → k < m 37 65 → (0 ≤ m 88 k ∧ m 88 k ≤ m 37 3) ∧ (m 86 k ≠ -1 → 0 < m 88 k)
def hMg (m : Int → Int → Int) : Prop := ∀ k, 0 ≤ k → k < m 37 65 → 0 ≤ m 84 k
def hI (m : Int → Int → Int) : Prop := hFr m ∧ hSn m ∧ hMg m
theorem qTm_g {m m' : Int → Int → Int} (h : ∀ z, 39 ≤ z → z ≤ 45 → m' z = m z) (c a k : Int) : qTm m' c a k = qTm m c a k := by
  unfold qTm
  rw [h 41 (by decide) (by decide), h 44 (by decide) (by decide), h 45 (by decide) (by decide), h 42 (by decide) (by decide), h 43 (by decide) (by decide), h 40 (by decide) (by decide)]
theorem hFr_e {m m' : Int → Int → Int} (h4 : m' 37 4 = m 37 4) (hr : ∀ z, 39 ≤ z → z ≤ 45 → m' z = m z) (h : hFr m) : hFr m' := fun c k c0 c1 k0 k1 => by
  rw [h4] at c1
  rw [hr 39 (by decide) (by decide)] at k1
  rw [qTm_g hr, qTm_g hr]
  exact h c k c0 c1 k0 k1
theorem hSn_e {m m' : Int → Int → Int} (h3 : m' 37 3 = m 37 3) (h65 : m' 37 65 = m 37 65) (h86 : m' 86 = m 86) (h88 : m' 88 = m 88) (h : hSn m) : hSn m' := by
  unfold hSn
  rw [h3, h65, h86, h88]
  exact h
theorem hMg_e {m m' : Int → Int → Int} (h65 : m' 37 65 = m 37 65) (h84 : m' 84 = m 84) (h : hMg m) : hMg m' := by
  unfold hMg
  rw [h65, h84]
  exact h
theorem hI_e {m m' : Int → Int → Int} (h37 : ∀ j, j = 3 ∨ j = 4 ∨ j = 65 → m' 37 j = m 37 j) (hr : ∀ z, (39 ≤ z ∧ z ≤ 45) ∨ z = 84 ∨ z = 86 ∨ z = 88 → m' z = m z) (h : hI m) : hI m' :=
  ⟨hFr_e (h37 4 (by omega)) (fun z a b => hr z (by omega)) h.1, hSn_e (h37 3 (by omega)) (h37 65 (by omega)) (hr 86 (by omega)) (hr 88 (by omega)) h.2.1, hMg_e (h37 65 (by omega)) (hr 84 (by omega)) h.2.2⟩
/-- a copy comes home -/
theorem hI_g {m m' : Int → Int → Int} {k : Int} (h37 : ∀ j, j = 3 ∨ j = 4 ∨ j = 65 → m' 37 j = m 37 j) (hr : ∀ z, (39 ≤ z ∧ z ≤ 45) ∨ z = 84 ∨ z = 88 → m' z = m z) (h86 : ∀ i, m' 86 i = if i = k then -1 else m 86 i) (h : hI m) : hI m' := by
  refine ⟨hFr_e (h37 4 (by omega)) (fun z a b => hr z (by omega)) h.1, fun i i0 i1 => ?_, hMg_e (h37 65 (by omega)) (hr 84 (by omega)) h.2.2⟩
  rw [h37 65 (by omega)] at i1
  obtain ⟨g1, g2⟩ := h.2.1 i i0 i1
  rw [h37 3 (by omega), hr 88 (by omega), h86]
  refine ⟨g1, fun q => ?_⟩
  by_cases c : i = k
  · rw [if_pos c] at q
    exact absurd rfl q
  · rw [if_neg c] at q
    exact g2 q
/-- a copy is made -/
theorem hI_m {m m' : Int → Int → Int} {k A : Int} (h37 : ∀ j, j = 3 ∨ j = 4 → m' 37 j = m 37 j) (h65 : m 37 65 = k) (h65' : m' 37 65 = k + 1) (hr : ∀ z, (39 ≤ z ∧ z ≤ 45) ∨ z = 88 → m' z = m z) (h86 : ∀ i, m' 86 i = if i = k then -1 else m 86 i) (h88 : m 88 k = 0) (h84 : ∀ i, m' 84 i = if i = k then A else m 84 i) (hA : 0 ≤ A) (h3 : 0 ≤ m 37 3) (h : hI m) : hI m' := by
  refine ⟨hFr_e (h37 4 (by omega)) (fun z a b => hr z (by omega)) h.1, fun i i0 i1 => ?_, fun i i0 i1 => ?_⟩
  · rw [h65'] at i1
    rw [h37 3 (by omega), hr 88 (by omega), h86]
    by_cases c : i = k
    · rw [if_pos c, c, h88]
      exact ⟨⟨Int.le_refl _, h3⟩, fun q => absurd rfl q⟩
    · rw [if_neg c]
      exact h.2.1 i i0 (by omega)
  · rw [h65'] at i1
    rw [h84]
    by_cases c : i = k
    · rw [if_pos c]
      exact hA
    · rw [if_neg c]
      exact h.2.2 i i0 (by omega)
/-- days pass -/
def hSp (M : Int → Int → Int) (p : qQ) : Prop := ∀ k, 0 ≤ k → k < M 37 65 → (0 ≤ p.2.2.1 k ∧ p.2.2.1 k ≤ p.2.2.2.2.2.2) ∧ (p.1 k ≠ -1 → 0 < p.2.2.1 k)
def hSq (M : Int → Int → Int) (p : qQ) (i : Nat) : Prop := ∀ k, 0 ≤ k → k < M 37 65 → (0 ≤ p.2.2.1 k ∧ p.2.2.1 k ≤ p.2.2.2.2.2.2 ∧ ((i : Int) ≤ k → p.2.2.1 k + 1 ≤ p.2.2.2.2.2.2)) ∧ (p.1 k ≠ -1 → 0 < p.2.2.1 k)
theorem hSq_d {M : Int → Int → Int} {p : qQ} {i : Nat} (hd : p.2.2.2.2.2.2 ≤ 1000) (h : hSq M p i) : hSq M (qsd M p i) (i + 1) ∧ (qsd M p i).2.2.2.2.2.2 = p.2.2.2.2.2.2 := by
  unfold qsd
  by_cases c : qsw M p i = -1
  · rw [if_pos c]
    exact ⟨fun k k0 k1 => ⟨⟨(h k k0 k1).1.1, (h k k0 k1).1.2.1, fun q => (h k k0 k1).1.2.2 (by omega)⟩, (h k k0 k1).2⟩, rfl⟩
  · rw [if_neg c]
    refine ⟨fun k k0 k1 => ?_, rfl⟩
    obtain ⟨⟨g1, g2, g3⟩, g4⟩ := h k k0 k1
    show (0 ≤ qse p.2.2.1 i (z32 (p.2.2.1 i + 1)) k ∧ qse p.2.2.1 i (z32 (p.2.2.1 i + 1)) k ≤ p.2.2.2.2.2.2 ∧ (((i + 1 : Nat) : Int) ≤ k → qse p.2.2.1 i (z32 (p.2.2.1 i + 1)) k + 1 ≤ p.2.2.2.2.2.2)) ∧ (qse p.1 i (p.2.2.2.1 (qsw M p i)) k ≠ -1 → 0 < qse p.2.2.1 i (z32 (p.2.2.1 i + 1)) k)
    unfold qse
    by_cases e : k = i
    · rw [if_pos e, if_pos e, ← e, q32 (by omega)]
      have := g3 (by omega)
      exact ⟨⟨by omega, by omega, fun q => by omega⟩, fun _ => by omega⟩
    · rw [if_neg e, if_neg e]
      exact ⟨⟨g1, g2, fun q => g3 (by omega)⟩, g4⟩
theorem hSq_r {M : Int → Int → Int} {p : qQ} (hd : p.2.2.2.2.2.2 ≤ 1000) (h : hSq M p 0) : ∀ i : Nat, hSq M (qsr M p i).1 i ∧ (qsr M p i).1.2.2.2.2.2.2 = p.2.2.2.2.2.2
  | 0 => ⟨h, rfl⟩
  | i + 1 => by
    obtain ⟨g, e⟩ := hSq_r hd h i
    obtain ⟨g2, e2⟩ := hSq_d (by rw [e]; exact hd) g
    exact ⟨g2, e2.trans e⟩
theorem hSp_s {M : Int → Int → Int} {p : qQ} (h : hSp M p) : ∀ d : Nat, p.2.2.2.2.2.2 + d ≤ 1000 → hSp M (qds M p d).1 ∧ (qds M p d).1.2.2.2.2.2.2 = p.2.2.2.2.2.2 + d
  | 0, _ => ⟨h, by show p.2.2.2.2.2.2 = p.2.2.2.2.2.2 + ((0 : Nat) : Int); omega⟩
  | d + 1, hd => by
    obtain ⟨g, e⟩ := hSp_s h d (by omega)
    have h0 : hSq M (qdq (qds M p d).1) 0 := fun k k0 k1 => by
      obtain ⟨⟨a1, a2⟩, a3⟩ := g k k0 k1
      refine ⟨⟨a1, ?_, fun _ => ?_⟩, a3⟩
      · show _ ≤ (qds M p d).1.2.2.2.2.2.2 + 1
        exact Int.le_trans a2 (by omega)
      · show _ + 1 ≤ (qds M p d).1.2.2.2.2.2.2 + 1
        exact Int.add_le_add_right a2 1
    obtain ⟨g2, e2⟩ := hSq_r (p := qdq (qds M p d).1) (by show (qds M p d).1.2.2.2.2.2.2 + 1 ≤ 1000; omega) h0 (M 37 65).toNat
    have e3 : (qsr M (qdq (qds M p d).1) (M 37 65).toNat).1.2.2.2.2.2.2 = p.2.2.2.2.2.2 + ((d + 1 : Nat) : Int) := by
      rw [e2]
      show (qds M p d).1.2.2.2.2.2.2 + 1 = _
      omega
    exact ⟨fun k k0 k1 => ⟨⟨(g2 k k0 k1).1.1, (g2 k k0 k1).1.2.1⟩, (g2 k k0 k1).2⟩, e3⟩
/-- a contraction is told -/
theorem hI_c {S S9 : zS} {M : Int → Int → Int} {c g p f s n K A : Int} {t : Int → Int} (hC : qRC S) (hM : qMc S S9 M c g p f s n K A t) (hA : 24 * c + K = A) (hc : 0 ≤ c ∧ c < zm S 37 4) (hK : zm S 39 c = K) (k24 : K < 24) (hf : qfre f) (hs : s = 0 ∨ qfre s) (h84 : zm S9 84 = zm S 84) (h86 : zm S9 86 = zm S 86) (h88 : zm S9 88 = zm S 88) (h : hI (zm S)) : hI M := by
  obtain ⟨lo, ⟨-, -, m37⟩, m39, mo, -, -, -, m3, m4, -⟩ := hM
  refine ⟨fun c' k c0 c1 k0 k1 => ?_, hSn_e (m37 3 (by decide) (by decide)) (m37 65 (by decide) (by decide)) ((lo 86 (by decide) (by decide)).trans h86) ((lo 88 (by decide) (by decide)).trans h88) h.2.1, hMg_e (m37 65 (by decide) (by decide)) ((lo 84 (by decide) (by decide)).trans h84) h.2.2⟩
  rw [m37 4 (by decide) (by decide)] at c1
  rw [m39] at k1
  have K0 := (qRC_1 hC hc.1 hc.2).2.1.2.2.2.1
  have N0 := (qRC_1 hC c0 c1).2.1.2.2.2.1
  by_cases q : c' = c ∧ k = K
  · obtain ⟨rfl, rfl⟩ := q
    rw [m3, m4]
    exact ⟨hf, hs⟩
  · have kb : k < zm S 39 c' := by
      by_cases e : c' = c
      · rw [if_pos e] at k1
        rw [e, hK]
        omega
      · rw [if_neg e] at k1
        exact k1
    have ne : 24 * c' + k ≠ A := by
      by_cases e : c' = c
      · omega
      · omega
    rw [mo c' 3 k (by decide) (by decide) ne, mo c' 4 k (by decide) (by decide) ne]
    exact h.1 c' k c0 c1 k0 kb
/-- .. and with it what a call leaves -/
def qG6 (S S2 : zS) : Prop := qG5 S S2 ∧ (hI (zm S) → hI (zm S2))
theorem hI_q {S : zS} {m : Int → Int → Int} (hC : qRC S) (f : qFq S m) : hI (zm S) → hI m := hI_e (fun j hj => f 37 j (qns hC (by decide) (by unfold qscf; omega))) fun z hz => qFq_x hC f (by omega) fun j => by unfold qscf; omega
theorem hI_0 {m m' : Int → Int → Int} (f : qF0 m m') : hI m → hI m' := hI_e (fun j hj => f 37 j (by unfold qfly; omega)) fun z hz => funext fun j => f z j (by unfold qfly; omega)
theorem q6_w {S : zS} {m : Int → Int → Int} (h : qHC (qW S m)) (e1 : m 37 16 = zm S 37 16) (e2 : m 37 65 = zm S 37 65) (h5 : q50 S m) (hi : hI (zm S) → hI m) : qG6 S (qW S m) := ⟨q5_w h e1 e2 h5, hi⟩
theorem q6_0 {S : zS} (hH : qHC S) (v : Int) : qG6 S (zbump (qW S (qu (zm S) 37 0 v))) := ⟨q5_0 hH v, hI_q hH.1.1.2.1.2.1 (qFq_0 S v)⟩
theorem q6_ff {S : zS} (hH : qHC S) {m : Int → Int → Int} (f : qFq S m) : qG6 S (qW S m) := ⟨q5_ff hH f, hI_q hH.1.1.2.1.2.1 f⟩
theorem q6_fx {S : zS} (hH : qHC S) {m : Int → Int → Int} (f : qFq S m) : qG6 S (zbump (qW S m)) := ⟨q5_fx hH f, hI_q hH.1.1.2.1.2.1 f⟩
theorem qUn_n6 {S : zS} {R : zR} {F : zS → zR} {ps : Nat → Int} {w : Int → Int} (hH : qHC S) (h : qNo ps S R F) : qUn vi w (qG6 S) S R F ps := qUn_no h fun p => q6_0 hH p
theorem qUn_x6 {S : zS} {R : zR} {F : zS → zR} {ps : Nat → Int} (hH : qHC S) (x : Nat) (hR : R = some (.inr x, zbump S)) (hx : ps x ≠ 0) (hF : ∃ m3, F (zbump S) = some (.inl (some (vi 0)), zbump (qW S m3)) ∧ qF0 (zm S) m3 ∧ m3 37 0 = ps x ∧ qHB1 (qW S m3) ∧ q50 S m3) : qUn vi qid (qG6 S) S R F ps := by
  have hC := hH.1.1.2.1.2.1
  obtain ⟨m3, r, f3, h3, H3, h5⟩ := hF
  have f := qF0_z f3
  exact Or.inr ⟨x, 0, zbump S, zbump (qW S m3), hR, ⟨rfl, fun _ _ => rfl⟩, r, ⟨qFx_lo hC f.1 1 (by decide) (fun i => by unfold qscf; omega) (fun i => by unfold qsxf; omega), fun _ _ => rfl⟩, h3, hx, q5_x hH f.1 (qHC_z hH f ⟨qH0_x hH.1.1 f.1, H3.2⟩) h5, hI_0 f3⟩
theorem j_add_y (e : Nat) (S : zS) (b x : Int) (n : Nat) (he : 14 ≤ e) (hH : qHC S) (hb : 0 ≤ b ∧ b < zm S 37 16) (hx : zm S 8 b = x) (hf : qtf (zm S 38) (zm S 37 2) = -1) (hn : qcw (zm S 38) (zm S 37 2).toNat = (n : Int)) (h80 : zm S 54 b + n ≤ 80) (h13 : zm S x 13 = 0) :
    qUn vi qid (qG6 S) S (zD (e + 1) 132 [vr 3, vi b] S) (zD (e + 1) 255 [vr 37, vi b]) qps3 := by
  obtain ⟨⟨⟨⟨hK, hP, hL, hn0⟩, ⟨hRT, hC, hR, hk⟩, ⟨p1, p2, p3, p4, p5, p6⟩, hY⟩, hBB⟩, hYC, hFc⟩ := id hH
  have b4 : b < 4 := by have := hY.1.2; omega
  obtain ⟨⟨kx, kx1, kx2, x103, xn⟩, ⟨-, x1a, c1, c2⟩, -, ⟨-, wr⟩, ⟨-, tr⟩, -, -, ⟨x7J, n54⟩, -⟩ := hY.2.1 b hb.1 hb.2
  rw [hx] at kx kx1 kx2 x103 xn x1a x7J
  obtain ⟨cb, co, tk, -⟩ := qRC_1 hC c1 c2
  obtain ⟨J0, fL, fE, fA, fU, fM, P0, l0, q0, ql⟩ := hBB b hb.1 hb.2
  rw [hx] at q0
  have hJ0 : zm S 54 b = (J0 : Int) := q0.1.1
  have n1 : 0 < n := by
    have := (qcw_r (zm S 38) (zm S 37 2).toNat).1
    omega
  obtain ⟨fp, fW, fd, fs, fb, fm, fp0, tx⟩ := qTx_ex (zm S 38) (zm S 37 2) hRT.2.1 hRT.2.2.2 n 0 (Int.le_refl 0) hRT.2.1.1 (by rw [Int.sub_zero]; exact hf) (by rw [hn]; show (n : Int) = n - 1 + 1; omega)
  obtain ⟨pp, hpp⟩ : ∃ pp : Nat → Nat, ∀ i : Nat, qPw (zm S) (fW i) (fd i) = (pp i : Int) ∧ (pp i = 0 ∨ qPk (pp i) (fW i).length) := ⟨fun i => Classical.choose (qPw_p hk hR.2.1.1 (fW i) (fd i)), fun i => Classical.choose_spec (qPw_p hk hR.2.1.1 (fW i) (fd i))⟩
  obtain ⟨a, ha⟩ : ∃ a, zm S 6 (zm S 49 b) = a := ⟨_, rfl⟩
  obtain ⟨Tq, hTq⟩ : ∃ Tq, qTm (zm S) (zm S 49 b) = Tq := ⟨_, rfl⟩
  obtain ⟨Nc, hNc⟩ : ∃ Nc, zm S 39 (zm S 49 b) = Nc := ⟨_, rfl⟩
  obtain ⟨g, hg⟩ : ∃ g, zm S 50 b = g := ⟨_, rfl⟩
  obtain ⟨w, hw⟩ : ∃ w, zm S 51 b = w := ⟨_, rfl⟩
  obtain ⟨t, ht⟩ : ∃ t, zm S 52 b = t := ⟨_, rfl⟩
  rw [ha] at x1a cb
  rw [hw, ht] at q0 ql
  obtain ⟨gL, hgL⟩ : ∃ f : Nat → List Int, (fun j => if j < J0 then fL j else qwL Tq Nc g (fW (j - J0)) (pp (j - J0)) (fd (j - J0)) (fs (j - J0)) (fb (j - J0)) (qmc (fm (j - J0)))) = f := ⟨_, rfl⟩
  obtain ⟨gE, hgE⟩ : ∃ f : Nat → List Int, (fun j => if j < J0 then fE j else qwE Tq Nc g (fW (j - J0)) (pp (j - J0)) (fd (j - J0)) (fs (j - J0)) (fb (j - J0))) = f := ⟨_, rfl⟩
  obtain ⟨gU, hgU⟩ : ∃ f : Nat → Int, (fun j => if j < J0 then fU j else qwU Tq Nc g (fW (j - J0)) (pp (j - J0)) (fd (j - J0))) = f := ⟨_, rfl⟩
  obtain ⟨gM, hgM⟩ : ∃ f : Nat → Int, (fun j => if j < J0 then fM j else qwM Tq Nc g (fW (j - J0)) (pp (j - J0)) (fd (j - J0))) = f := ⟨_, rfl⟩
  obtain ⟨gA, hgA⟩ : ∃ f : Nat → Int, (fun j => if j < J0 then fA j else qah_ (zm S 38) (fp (j - J0)) (j - J0)) = f := ⟨_, rfl⟩
  have ext : ∀ j, j < J0 → gL j = fL j ∧ gE j = fE j ∧ gA j = fA j ∧ gU j = fU j ∧ gM j = fM j := fun j hj => by
    rw [← hgL, ← hgE, ← hgA, ← hgU, ← hgM]
    exact ⟨if_pos hj, if_pos hj, if_pos hj, if_pos hj, if_pos hj⟩
  have new : ∀ i : Nat, gL (J0 + i) = qwL Tq Nc g (fW i) (pp i) (fd i) (fs i) (fb i) (qmc (fm i)) ∧ gE (J0 + i) = qwE Tq Nc g (fW i) (pp i) (fd i) (fs i) (fb i) ∧ gU (J0 + i) = qwU Tq Nc g (fW i) (pp i) (fd i) ∧ gM (J0 + i) = qwM Tq Nc g (fW i) (pp i) (fd i) ∧ gA (J0 + i) = qah_ (zm S 38) (fp i) i := fun i => by
    have e : J0 + i - J0 = i := by omega
    have hn : ¬ J0 + i < J0 := by omega
    rw [← hgL, ← hgE, ← hgA, ← hgU, ← hgM]
    simp only [if_neg hn, e, and_self]
  have oldo := qB_J q0
  have H : qAdH S b x (zm S 49 b) a g w t Nc Tq J0 n (zm S 38) (zm S 37 2) fp fW fd fs fb fm pp gL gE gA gU gM := by
    refine ⟨⟨hb, hx, rfl, ha, hg, hw, ht, hNc, hTq⟩, ⟨hJ0, by omega⟩, ⟨rfl, rfl⟩, ⟨tx, fp0⟩, fun i hi => ⟨(hpp i).1, (hpp i).2, ?_⟩, fun i _ => new i, fun j hj => ?_, fun hj => ?_⟩
    · rw [← (hpp i).1]
      exact qPw_4 hR _ _ (tx i hi).2.2.2.1.1.1
    · obtain ⟨g1, g2, g3, -⟩ := ext j hj
      rw [g1, g2, g3]
      exact oldo j hj
    · rw [(ext 0 hj).2.2.1]
      exact q0.1.2.2 hj
  have ecb : qZn w t gL gE gA J0 = qZn w t fL fE fA J0 := qZn_c (w := w) (t := t) J0 fun i hi => ⟨(ext i hi).1, (ext i hi).2.1, (ext i hi).2.2.1⟩
  have he13 : 13 ≤ e := by omega
  obtain ⟨Z, C, cls, A⟩ := q_add_c e he13 hH H hf hn h13 (by rw [ecb]; exact q0.2.2)
  have A0 := A
  obtain ⟨⟨A1, A2, A3⟩, Ak, Am, -⟩ := A
  have hKZ : qK Z := qK_g hK hn0 Ak
  have a103 := cb.2.2.2.2.2.2.2.2.2.1
  have pa30 := cb.2.2.2.2.2.2.2.2.1
  have Cl : ∀ z, z < 103 → C z = zm S z := q_add_l hn0 x103 a103 Am
  have Ak3 : ∀ z : Int, z < 103 → zk Z z = zk S z := fun z hz => Ak z (Int.lt_of_lt_of_le hz hn0)
  refine Or.inl ⟨(J0 : Int) + n, _, cls, ⟨?_, Ak3⟩, ?_⟩
  · show qu C 4 1 0 1 = zm S 1
    rw [qu_o _ _ _ _ _ (by decide), Cl 1 (by decide)]
  obtain ⟨v, hv⟩ : ∃ v, (J0 : Int) + n = v := ⟨_, rfl⟩
  obtain ⟨M, hM⟩ : ∃ M, qu (qu C 4 1 0) 102 0 (qid v) = M := ⟨_, rfl⟩
  have hq1 : qo (qW Z (qu C 4 1 0)) (qid v) = qW Z M := by rw [← hM]; rfl
  have Mo : ∀ z, z ≠ 4 → z ≠ 102 → M z = C z := fun z h1 h2 => by rw [← hM, qu_o _ _ _ _ _ h2, qu_o _ _ _ _ _ h1]
  have Ml : ∀ z, z < 102 → z ≠ 4 → M z = zm S z := q_add_m Mo Cl
  have hPM : qP M := q_add_P hP hM Cl Ml
  obtain ⟨mR, rr, R⟩ := q_add_r e he13 hH H hf hn n1 h13 Z M hKZ hPM Ml
  have HC := q_add_h hH H n1 h13 q0 ql ext A0 hM R Cl x103 a103 pa30
  obtain ⟨R1, -⟩ := R
  obtain ⟨M0, hM0⟩ : ∃ M0, qu M 37 0 0 = M0 := ⟨_, rfl⟩
  rw [hM0] at R1
  have M0i : ∀ j, j ≠ 0 → M0 37 j = zm S 37 j := fun j hj => by rw [← hM0, qu_i _ _ _ _ _ hj, Ml 37 (by decide) (by decide)]
  obtain ⟨mF, hmF⟩ : ∃ mF, qu mR 37 2 0 = mF := ⟨_, rfl⟩
  rw [hmF] at rr HC
  have Fi : ∀ j, j ≠ 2 → mF 37 j = mR 37 j := fun j hj => by rw [← hmF, qu_i _ _ _ _ _ hj]
  have Fo : ∀ z, z ≠ 37 → mF z = mR z := fun z hz => by rw [← hmF, qu_o _ _ _ _ _ hz]
  have R37 : ∀ j, j = 0 ∨ j = 16 ∨ j = 50 ∨ j = 65 → mF 37 j = M0 37 j := fun j hj => q_add_37 Fi R1 hj
  have M00 : M0 37 0 = 0 := by rw [← hM0, qu_s]
  have n30 : 2 * (n : Int) ≤ 61 := by
    rcases qTx_2 tx fp0 n (Nat.le_refl _) with ⟨y1, y2⟩ | y
    · have := hRT.2.1
      clear H A0 HC ext new hpp
      omega
    · exact absurd y (Nat.pos_iff_ne_zero.mp n1)
  rw [hv, hq1]
  rw [hv] at rr
  refine ⟨qW Z mF, rr, ⟨?_, Ak3⟩, ?_, ?_, ⟨⟨HC, ?_, ?_⟩, Or.inl ?_, Int.le_of_eq ?_⟩, hI_e (fun j hj => by rw [show zm (qW Z mF) 37 j = mF 37 j from rfl, Fi j (by omega), R1 37 j (by omega), M0i j (by omega)]) (fun z hz => by rw [show zm (qW Z mF) z = mF z from rfl, Fo z (by omega), show mR z = M0 z from funext fun j => R1 z j (by omega), ← hM0, qu_o _ _ _ _ _ (by omega), Ml z (by omega) (by omega)])⟩
  · show mF 1 = zm S 1
    rw [Fo 1 (by decide), show mR 1 = M0 1 from funext fun j => R1 1 j (q_add_1 j 1 (Or.inl rfl)), ← hM0, qu_o _ _ _ _ _ (by decide), Ml 1 (by decide) (by decide)]
  · show mF 37 0 = 0
    rw [R37 0 (Or.inl rfl), M00]
  · show mF 102 0 = _
    rw [Fo 102 (by decide), R1 102 0 (q_add_1 0 102 (Or.inr rfl)), ← hM0, qu_o _ _ _ _ _ (by decide), ← hM, qu_s]
  · show zc Z ≤ zc S + 500
    exact q_add_z A2 n30
  · show ((zw Z : Nat) : Int) ≤ zw S + 2000 + 15000 * ((mF 37 16 + mF 37 65) - (zm S 37 16 + zm S 37 65))
    rw [R37 16 (by decide), M0i 16 (by decide), R37 65 (by decide), M0i 65 (by decide)]
    exact q_add_w A3 n30
  · show mF 37 50 = zm S 37 50
    rw [R37 50 (by decide), M0i 50 (by decide)]
  · show zm S 37 16 = mF 37 16
    rw [R37 16 (by decide), M0i 16 (by decide)]
theorem j_add (d : Nat) (S : zS) (b : Int) (h : 15 ≤ d) (hH : qHC S) :
    qUn vi qid (qG6 S) S (zD d 132 [vr 3, vi b] S) (zD d 255 [vr 37, vi b]) qps3 := by
  obtain ⟨⟨⟨⟨hK, hP, hL, hn0⟩, ⟨hRT, hC, hR, hk⟩, ⟨p1, p2, p3, p4, p5, p6⟩, hY⟩, hBB⟩, hYC, hFc⟩ := id hH
  by_cases c1 : 0 ≤ b ∧ b < zm S 37 16
  · obtain ⟨e, rfl, he⟩ := qd h
    have hKb : qK (zbump S) := hK
    have b4 : b < 4 := by have := hY.1.2; omega
    have bo := s_bookOf_y e S b (by omega) hK hP hY.1 c1
    have fa := s_faultAsText' e S (by omega) hK hP hRT
    have wt := r_wordsOfTape e (zbump S) (by omega) hK hP hRT
    rw [show zm (zbump S) 38 = zm S 38 from rfl, show zm (zbump S) 37 2 = zm S 37 2 from rfl] at wt
    have ib := r_isbook_y e (zbump S) b (by omega) hK hY.1.2 c1
    obtain ⟨⟨kx, -⟩, -, -, -, -, -, -, ⟨x7J, n54⟩, -⟩ := hY.2.1 b c1.1 c1.2
    by_cases c2 : qtf (zm S 38) (zm S 37 2) = -1
    · rw [if_pos c2] at wt
      have cw := s_countWords e S (zm S 37 2) (by omega) hK (P_4_0 hP) hRT.1 hRT.2.1
      rw [qcw_e hRT.2.2.1 hRT.2.1.1] at cw
      obtain ⟨n, hn⟩ : ∃ n : Nat, qcw (zm S 38) (zm S 37 2).toNat = (n : Int) := ⟨(qcw (zm S 38) (zm S 37 2).toNat).toNat, by have := (qcw_r (zm S 38) (zm S 37 2).toNat).1; omega⟩
      have n1 := qcw_r (zm S 38) (zm S 37 2).toNat
      rw [hn] at wt cw n1
      by_cases c3 : zm S 54 b + n ≤ 80 ∧ zm S (zm S 8 b) 13 = 0
      · exact j_add_y e S b _ n he hH c1 rfl c2 hn c3.1 c3.2
      · have e13 := hYC.1 b c1.1 c1.2
        have r13 := qbn_r (zm S) b (zm S 37 65).toNat
        have cp := r_copiesOf e (zbump S) b (by omega) hK hP p4.1.2
        rw [show qbn (zm (zbump S)) b (zm (zbump S) 37 65).toNat = zm S (zm S 8 b) 13 from e13.symm] at cp
        have p22 : zm (zbump S) 37 22 = 54 := P_37_22 hP
        have hd := r_refuse e S 3 (by omega) hK (by decide)
        have nn : ¬ (n : Int) = 0 := by omega
        have N60 := hRT.2.1
        have zz : z32 (zm S 54 b + (n : Int)) = zm S 54 b + n := q32 (by omega)
        have e54 : zm (zbump S) 54 b = zm S 54 b := rfl
        refine qUn_n6 hH ⟨1, ?_, ?_, by decide⟩
        · by_cases c4 : 80 < zm S 54 b + n
          · simp (config := { maxSteps := 2000000 }) (disch := first | omega | (simp only [K_3 hK, K_4 hK, P_3_0 hP, kx, qb_in, qkW, qmW, qnW, true_and, and_true, or_self, true_or, or_true, and_self]; done) | (simp only [K_3 hK, K_4 hK, P_3_0 hP, kx, qb_in, qkW, qmW, qnW, true_and, and_true, or_self, true_or, or_true, and_self]; omega)) only [zD_132, b132_0, b132_5, b132_13, b132_17, b132_28, b132_39, b132_45, b132_52, b132_63, b132_70, b132_87, b132_94, b132_110, b132_124, b132_129, b132_141, b132_154, b132_156, b132_167, qcall_l, qcall_r, qretn_l, qJ_s, qJ_n, qV0, qEx, ↓qif0, ↓zchk_pos, ↓reduceIte, qput, qWW, qmW, qkW, qnW, K_3 hK, K_4 hK, P_3_0 hP, bo, fa, c2, kx, cw, x7J, zz, if_pos c4]
          · simp (config := { maxSteps := 2000000 }) (disch := first | omega | (simp only [K_3 hK, K_4 hK, P_3_0 hP, kx, qb_in, qkW, qmW, qnW, true_and, and_true, or_self, true_or, or_true, and_self]; done) | (simp only [K_3 hK, K_4 hK, P_3_0 hP, kx, qb_in, qkW, qmW, qnW, true_and, and_true, or_self, true_or, or_true, and_self]; omega)) only [zD_132, b132_0, b132_5, b132_13, b132_17, b132_28, b132_39, b132_45, b132_52, b132_63, b132_70, b132_87, b132_94, b132_110, b132_124, b132_129, b132_141, b132_154, b132_156, b132_167, qcall_l, qcall_r, qretn_l, qJ_s, qJ_n, qV0, qEx, ↓qif0, ↓zchk_pos, ↓reduceIte, qput, qWW, qmW, qkW, qnW, K_3 hK, K_4 hK, P_3_0 hP, bo, fa, c2, kx, cw, x7J, zz, if_neg c4, if_pos (show 0 < zm S (zm S 8 b) 13 by omega)]
        · by_cases c4 : 80 < zm S 54 b + n
          · simp (config := { maxSteps := 2000000 }) (disch := first | omega | (simp only [K_37 hKb, K_54 hKb, p22, c1.1, b4, qb_in, qkW, qmW, qnW, true_and, and_true, or_self, true_or, or_true, and_self]; done) | (simp only [K_37 hKb, K_54 hKb, p22, c1.1, b4, qb_in, qkW, qmW, qnW, true_and, and_true, or_self, true_or, or_true, and_self]; omega)) only [zD_255, b255_0, b255_4, b255_10, b255_16, b255_20, b255_24, b255_28, b255_41, b255_46, b255_49, b255_53, b255_54, b255_57, b255_60, b255_62, b255_77, b255_83, b255_98, b255_116, b255_135, b255_153, b255_174, b255_192, b255_200, b255_213, b255_216, b255_221, b255_225, b255_231, b255_236, b255_240, b255_241, b255_255, qcall_l, qcall_r, qretn_l, qJ_s, qJ_n, qV0, qEx, ↓qif0, ↓zchk_pos, ↓reduceIte, qput, qWW, qmW, qkW, qnW, K_37 hKb, K_54 hKb, wt, ib, if_neg nn, p22, e54, zz, if_pos c4, hd, Int.reduceEq]
            rfl
          · simp (config := { maxSteps := 2000000 }) (disch := first | omega | (simp only [K_37 hKb, K_54 hKb, p22, c1.1, b4, qb_in, qkW, qmW, qnW, true_and, and_true, or_self, true_or, or_true, and_self]; done) | (simp only [K_37 hKb, K_54 hKb, p22, c1.1, b4, qb_in, qkW, qmW, qnW, true_and, and_true, or_self, true_or, or_true, and_self]; omega)) only [zD_255, b255_0, b255_4, b255_10, b255_16, b255_20, b255_24, b255_28, b255_41, b255_46, b255_49, b255_53, b255_54, b255_57, b255_60, b255_62, b255_77, b255_83, b255_98, b255_116, b255_135, b255_153, b255_174, b255_192, b255_200, b255_213, b255_216, b255_221, b255_225, b255_231, b255_236, b255_240, b255_241, b255_255, qcall_l, qcall_r, qretn_l, qJ_s, qJ_n, qV0, qEx, ↓qif0, ↓zchk_pos, ↓reduceIte, qput, qWW, qmW, qkW, qnW, K_37 hKb, K_54 hKb, wt, ib, if_neg nn, p22, e54, zz, if_neg c4, cp, if_pos (show 0 < zm S (zm S 8 b) 13 by omega), hd, Int.reduceEq]
            rfl
    · rw [if_neg c2] at wt
      have hd := r_refuse e S 2 (by omega) hK (by decide)
      refine qUn_n6 hH ⟨0, ?_, ?_, by decide⟩
      · simp (config := { maxSteps := 2000000 }) (disch := first | omega | (simp only [K_3 hK, K_4 hK, P_3_0 hP, qb_in, qkW, qmW, qnW, true_and, and_true, or_self, true_or, or_true, and_self]; done) | (simp only [K_3 hK, K_4 hK, P_3_0 hP, qb_in, qkW, qmW, qnW, true_and, and_true, or_self, true_or, or_true, and_self]; omega)) only [zD_132, b132_0, b132_5, b132_13, b132_17, b132_28, b132_39, b132_45, b132_52, b132_63, b132_70, b132_87, b132_94, b132_110, b132_124, b132_129, b132_141, b132_154, b132_156, b132_167, qcall_l, qcall_r, qretn_l, qJ_s, qJ_n, qV0, qEx, ↓qif0, ↓zchk_pos, ↓reduceIte, qput, qWW, qmW, qkW, qnW, K_3 hK, K_4 hK, P_3_0 hP, bo, fa, if_neg c2]
      · simp (config := { maxSteps := 2000000 }) (disch := first | omega | (simp only [K_37 hKb, qb_in, qkW, qmW, qnW, true_and, and_true, or_self, true_or, or_true, and_self]; done) | (simp only [K_37 hKb, qb_in, qkW, qmW, qnW, true_and, and_true, or_self, true_or, or_true, and_self]; omega)) only [zD_255, b255_0, b255_4, b255_10, b255_16, b255_20, b255_24, b255_28, b255_41, b255_46, b255_49, b255_53, b255_54, b255_57, b255_60, b255_62, b255_77, b255_83, b255_98, b255_116, b255_135, b255_153, b255_174, b255_192, b255_200, b255_213, b255_216, b255_221, b255_225, b255_231, b255_236, b255_240, b255_241, b255_255, qcall_l, qcall_r, qretn_l, qJ_s, qJ_n, qV0, qEx, ↓qif0, ↓zchk_pos, ↓reduceIte, qput, qWW, qmW, qkW, qnW, K_37 hKb, wt, ib, hd, Int.reduceEq]
        rfl
  · exact qUn_n6 hH (q_add_n d S b (by omega) hK hP hRT hY.1 c1)
theorem j_emboss_y5 (e : Nat) (S : zS) (k c b x w t P : Int) (he : 13 ≤ e) (hH : qHC S) (hk : zm S 37 65 = k) (hk20 : k < 20) (hb : 0 ≤ b ∧ b < zm S 37 16) (hx : zm S 8 b = x) (hc : 0 ≤ c ∧ c < 3) (hw : zm S 51 b = w) (ht : zm S 52 b = t) (hP : zm S x 9 = P) (h54 : 0 < zm S 54 b) :
    qUn vi qid (qG6 S) S (zD (e + 1) 137 [vr 3, vi c, vi b] S) (zD (e + 1) 276 [vr 37, vi c, vi b]) qpsE := by
  obtain ⟨⟨⟨⟨hK, hPp, hL, hn1⟩, -, ⟨p1, p2, p3, p4, p5, p6⟩, hY⟩, hBB⟩, hYC, hFc⟩ := id hH
  have k0 : 0 ≤ k := by rw [← hk]; exact p4.1.2.1
  have he12 : 12 ≤ e := by omega
  obtain ⟨⟨kx, kx1, kx2, x103, xn⟩, -, -, ⟨x3, wr⟩, ⟨x4, tr⟩, ⟨-, h53⟩, -, -, x8, -⟩ := hY.2.1 b hb.1 hb.2
  rw [hx] at kx kx1 kx2 x103 xn x3 x4 x8
  rw [hw] at x3 wr kx2
  rw [ht] at x4 tr kx2
  have Pr : 0 ≤ P ∧ P ≤ qmp t ∧ P ≤ 121 := by
    obtain ⟨J, fL, fE, fA, fU, fM, P', ll, w0, -⟩ := hBB b hb.1 hb.2
    obtain ⟨Pr, x9, -⟩ := qB0_P w0 (by rw [hw]; exact wr.1) (by rw [ht]; exact tr)
    rw [hx, hP] at x9
    rw [ht] at Pr
    rw [x9]
    exact Pr
  have cc := (s_countCl 1 S x w t P (by omega) kx kx2 x3 x4 x8 hP wr tr ⟨Pr.1, Pr.2.1⟩).2
  obtain ⟨n, hn⟩ : ∃ n : Nat, P * (t * w) = (n : Int) := ⟨(P * (t * w)).toNat, by omega⟩
  obtain ⟨f, hf⟩ : ∃ f, zm S (x + 2) = f := ⟨_, rfl⟩
  obtain ⟨cp, hcp⟩ : ∃ cp : Int → Int, (fun q => zm S 81 (6 * c + q)) = cp := ⟨_, rfl⟩
  have hcp : ∀ q, 0 ≤ q → q < 6 → zm S 81 (6 * c + q) = cp q := fun q _ _ => by rw [← hcp]
  have cpr : ∀ q, 0 ≤ q → q < 6 → 0 ≤ cp q ∧ cp q ≤ 100000 := fun q q1 q2 => by rw [← hcp q q1 q2]; exact (p1 c q hc.1 hc.2 q1 q2).2
  obtain ⟨T, C, rC, ⟨nT, zT, wT⟩, kT, Co, ⟨C3, C39⟩, C13, C10, ⟨Cx, Cx13⟩, CN, CF, CH, -, -, n14⟩ := s_emboss e S k c b x w t P n f cp (by omega) hH hk hk20 hb hx hc hw ht hP h54 hn hf hcp
  have xn2 : x + 2 < zn S := by omega
  have C1 : C 1 = zm S 1 := Co 1 (by omega) (by decide) (by decide) (by omega) (by omega)
  have kT' := q_em_k kT hn1
  clear cc
  refine Or.inl ⟨k, qW T C, rC, ⟨by show C 1 = _; exact C1, fun z hz => by rw [qkW]; exact kT' z hz⟩, ?_⟩
  obtain ⟨M, hM⟩ : ∃ M, qu C 102 0 (qid k) = M := ⟨_, rfl⟩
  have hq1 : qo (qW T C) (qid k) = qW T M := by rw [← hM]; rfl
  have Mo : ∀ z, z ≠ 102 → M z = C z := fun z hz => by rw [← hM, qu_o _ _ _ _ _ hz]
  have MS : ∀ z : Int, z < zn S → z ≠ 102 → z ≠ 3 → z ≠ 13 → z ≠ 10 + c → z ≠ x → M z = zm S z := fun z h0 h1 h2 h3 h4 h5 => by rw [Mo z h1, Co z h0 h2 h3 h4 h5]
  have M3 : ∀ j, j ≠ 9 → M 3 j = zm S 3 j := fun j hj => by rw [Mo 3 (by decide), C3 j hj]
  have x102 : x ≠ 102 := by omega
  have Mx : ∀ j, j ≠ 13 → M x j = zm S x j := fun j hj => by rw [Mo x x102, Cx j hj]
  have H1 : qHB1 (qW T M) := q_em_1 hH hc kx x103 nT kT MS M3 Mx
  obtain ⟨Ml, M8, M1, Mx2⟩ := q_em_0 hn1 hc x103 xn2 MS
  have M37 : M 37 = zm S 37 := Ml 37 (by decide) (by decide)
  have l73 : 0 ≤ zm S 37 73 ∧ zm S 37 73 ≤ 100000 := q_em_7 hH
  obtain ⟨mF, rF, HF, b1, ⟨f0, f65, f73⟩, f81, f81', f82, f83, f83', f84, f86, f87, l50⟩ := r_emboss5 e T M c k b x w t P n f cp he12 H1 hb.1 hc ⟨k0, hk20⟩ (by rw [M37]; exact hb.2) (by rw [M37]; exact hk) (by rw [M8]; exact hx) (by rw [Ml 51 (by decide) (by decide)]; exact hw) (by rw [Ml 52 (by decide) (by decide)]; exact ht) (by rw [Ml 53 (by decide) (by decide)]; exact h53) (by rw [Ml 54 (by decide) (by decide)]; exact h54) (by rw [Mx 9 (by decide)]; exact hP) (by rw [Mx2]; exact hf) x103 hn n14 ⟨Pr.1, Pr.2.2⟩ (fun q q1 q2 => ⟨by rw [Ml 81 (by decide) (by decide)]; exact hcp q q1 q2, cpr q q1 q2⟩) (by rw [M37]; exact l73)
  have shM : qsh M b = qsh (zm S) b := by
    unfold qsh
    rw [Ml 53 (by decide) (by decide), M8, hx, Mx 9 (by decide)]
  have zS2 : (zn S : Int) ≠ 102 ∧ (zn S : Int) + 1 ≠ 102 ∧ (zn S : Int) + 2 ≠ 102 ∧ 10 + c ≠ 102 := by omega
  have H6 : qHC (qW T mF) := q_em_2 hH hk hk20 hb hx hc hw ht hP h54 hn hf hcp x103 ⟨nT, zT, wT⟩ kT MS Ml M3 (by rw [Mo 3 (by decide), C39]) (fun i => by rw [Mo 13 (by decide), C13]) (fun q q1 q2 => by rw [Mo (10 + c) zS2.2.2.2, C10 q q1 q2]) Mx (by rw [Mo x x102, Cx13]) (by rw [Mo (zn S) zS2.1]; exact CN) (fun i hi => by rw [Mo _ zS2.2.1, CF i hi]) (fun j => by rw [Mo _ zS2.2.2.1, CH j]) shM HF b1 f65 f73 f81 f81' f82 f83 f83' f84 f86 f87
  refine ⟨qW T mF, by rw [hq1]; exact rF, ⟨?_, fun z hz => by rw [qkW]; exact kT' z hz⟩, f0, ?_, ⟨⟨H6, ?_, ?_⟩, q50_l l50 hb, Int.le_of_eq (show zm S 37 16 = mF 37 16 by rw [b1 37 16 (by unfold qfly; omega), M37])⟩, hI_m (k := k) (fun j hj => (b1 37 j (by unfold qfly; omega)).trans (by rw [M37])) hk f65 (fun z hz => (funext fun i => b1 z i (by unfold qfly; omega) : mF z = M z).trans (Ml z (by omega) (by omega))) (fun i => (f86 i).trans (by rw [Ml 86 (by decide) (by decide)])) (hYC.2.2.2.2 k (Int.le_of_eq hk) hk20) (fun i => (f84 i).trans (by rw [Ml 84 (by decide) (by decide)])) (qps_r f cp n 6 fun q q1 q2 => (cpr q q1 q2).1).1 p2.2.1⟩
  · show mF 1 = zm S 1
    rw [← M1]
    exact funext fun i => b1 1 i (by unfold qfly; omega)
  · show mF 102 0 = _
    rw [b1 102 0 (by unfold qfly; omega), ← hM, qu_s]
  · show zc T ≤ zc S + 500
    rw [zT]
    exact Nat.add_le_add_left (by decide) _
  · show ((zw T : Nat) : Int) ≤ zw S + 2000 + 15000 * ((mF 37 16 + mF 37 65) - (zm S 37 16 + zm S 37 65))
    rw [b1 37 16 (by unfold qfly; omega), f65, M37, hk]
    exact q_em_w wT n14 Pr.2.2
theorem j_emboss5 (d : Nat) (S : zS) (c b : Int) (h : 14 ≤ d) (hH : qHC S) :
    qUn vi qid (qG6 S) S (zD d 137 [vr 3, vi c, vi b] S) (zD d 276 [vr 37, vi c, vi b]) qpsE := by
  obtain ⟨⟨⟨⟨hK, hP, hL, hn⟩, -, ⟨p1, p2, p3, p4, p5, p6⟩, hY⟩, hBB⟩, hYC, hFc⟩ := id hH
  by_cases c0 : (0 ≤ c ∧ c < 3) ∧ (0 ≤ b ∧ b < zm S 37 16)
  · obtain ⟨hc, hb⟩ := c0
    obtain ⟨e, rfl, he⟩ := qd h
    by_cases c1 : zm S 54 b = 0 ∨ zm S 37 65 = 20
    · have hKb : qK (zbump S) := hK
      obtain ⟨⟨kx, -⟩, -, -, -, -, -, -, ⟨x7, -⟩, -⟩ := hY.2.1 b hb.1 hb.2
      have bo := s_bookOf_y e S b (by omega) hK hP hY.1 hb
      have b4 : b < 4 := by have := hY.1.2; omega
      have n65 := p4.1
      refine qUn_n6 hH ⟨1, ?_, ?_, by decide⟩
      · by_cases c2 : zm S 54 b = 0
        · simp (config := { maxSteps := 2000000 }) (disch := first | omega | (simp only [K_3 hK, kx, qb_in, qkW, qmW, qnW, true_and, and_true, or_self, true_or, or_true, and_self]; done) | (simp only [K_3 hK, kx, qb_in, qkW, qmW, qnW, true_and, and_true, or_self, true_or, or_true, and_self]; omega)) only [zD_137, b137_0, b137_4, b137_9, b137_20, b137_25, b137_33, b137_42, b137_53, b137_62, b137_75, b137_93, b137_110, qcall_l, qcall_r, qretn_l, qJ_s, qJ_n, qV0, qEx, ↓qif0, ↓zchk_pos, ↓reduceIte, qput, qWW, qmW, qkW, qnW, K_3 hK, if_neg (show ¬ c < 0 by omega), if_pos hc.2, bo, kx, x7, if_pos c2]
        · simp (config := { maxSteps := 2000000 }) (disch := first | omega | (simp only [K_3 hK, kx, qb_in, qkW, qmW, qnW, true_and, and_true, or_self, true_or, or_true, and_self]; done) | (simp only [K_3 hK, kx, qb_in, qkW, qmW, qnW, true_and, and_true, or_self, true_or, or_true, and_self]; omega)) only [zD_137, b137_0, b137_4, b137_9, b137_20, b137_25, b137_33, b137_42, b137_53, b137_62, b137_75, b137_93, b137_110, qcall_l, qcall_r, qretn_l, qJ_s, qJ_n, qV0, qEx, ↓qif0, ↓zchk_pos, ↓reduceIte, qput, qWW, qmW, qkW, qnW, K_3 hK, if_neg (show ¬ c < 0 by omega), if_pos hc.2, bo, kx, x7, if_neg c2, n65.1, if_neg (show ¬ zm S 37 65 < 20 by omega)]
      · have ie := r_isEmbosser e (zbump S) c (by omega)
        rw [qb_p (show 0 ≤ c ∧ c ≤ 2 by omega)] at ie
        have ib := r_isbook_y e (zbump S) b (by omega) hK hY.1.2 hb
        have p22 : zm (zbump S) 37 22 = 54 := P_37_22 hP
        have hd := r_refuse e S 2 (by omega) hK (by decide)
        by_cases c2 : zm S 54 b = 0
        · have e54 : zm (zbump S) 54 b = 0 := c2
          simp (config := { maxSteps := 2000000 }) (disch := first | omega | (simp only [K_37 hKb, K_54 hKb, p22, hb.1, b4, qb_in, qkW, qmW, qnW, true_and, and_true, or_self, true_or, or_true, and_self]; done) | (simp only [K_37 hKb, K_54 hKb, p22, hb.1, b4, qb_in, qkW, qmW, qnW, true_and, and_true, or_self, true_or, or_true, and_self]; omega)) only [zD_276, b276_0, b276_4, b276_7, b276_12, b276_15, b276_19, b276_20, b276_26, b276_30, b276_39, b276_48, b276_52, b276_53, b276_56, b276_59, b276_61, b276_79, b276_91, b276_98, b276_114, b276_121, b276_126, b276_128, b276_146, b276_160, b276_176, b276_187, b276_205, b276_212, b276_228, b276_237, b276_239, b276_257, qcall_l, qcall_r, qretn_l, qJ_s, qJ_n, qV0, qEx, ↓qif0, ↓zchk_pos, ↓reduceIte, qput, qWW, qmW, qkW, qnW, K_37 hKb, K_54 hKb, ie, ib, p22, e54, hd, Int.reduceEq]
          rfl
        · have e54 : ¬ zm (zbump S) 54 b = 0 := c2
          have e65 : zm (zbump S) 37 65 = 20 := by show zm S 37 65 = 20; omega
          simp (config := { maxSteps := 2000000 }) (disch := first | omega | (simp only [K_37 hKb, K_54 hKb, p22, hb.1, b4, qb_in, qkW, qmW, qnW, true_and, and_true, or_self, true_or, or_true, and_self]; done) | (simp only [K_37 hKb, K_54 hKb, p22, hb.1, b4, qb_in, qkW, qmW, qnW, true_and, and_true, or_self, true_or, or_true, and_self]; omega)) only [zD_276, b276_0, b276_4, b276_7, b276_12, b276_15, b276_19, b276_20, b276_26, b276_30, b276_39, b276_48, b276_52, b276_53, b276_56, b276_59, b276_61, b276_79, b276_91, b276_98, b276_114, b276_121, b276_126, b276_128, b276_146, b276_160, b276_176, b276_187, b276_205, b276_212, b276_228, b276_237, b276_239, b276_257, qcall_l, qcall_r, qretn_l, qJ_s, qJ_n, qV0, qEx, ↓qif0, ↓zchk_pos, ↓reduceIte, qput, qWW, qmW, qkW, qnW, K_37 hKb, K_54 hKb, ie, ib, p22, if_neg e54, e65, hd, Int.reduceEq]
          rfl
    · have n54 := (hY.2.1 b hb.1 hb.2).2.2.2.2.2.2.2.1.2
      have n65 := p4.1.2
      exact j_emboss_y5 e S _ c b _ _ _ _ he hH rfl (by omega) hb rfl hc rfl rfl rfl (by omega)
  · exact qUn_n6 hH (q_emboss_n d S c b (by omega) hK hY.1 (by omega))
theorem j_teach5 (d : Nat) (S : zS) (r c x : Int) (h : 4 ≤ d) (hH : qHC S) :
    qUn vi qid (qG6 S) S (zD d 142 [vr 3, vi r, vi c, vi x] S) (zD d 291 [vr 37, vi r, vi c, vi x]) qpsF := by
  obtain ⟨⟨⟨⟨hK, hP, hL, hn⟩, ⟨hT, hC, hR, hk⟩, ⟨p1, p2, p3, p4, p5, p6⟩, hY⟩, hBB⟩, hYC, hFc⟩ := id hH
  have hKb : qK (zbump S) := hK
  by_cases c1 : 0 ≤ r ∧ r < zm S 37 76
  · obtain ⟨e, rfl, he⟩ := qd h
    have ro := s_readerOf_y e S r (by omega) hK hP p5.1 c1
    obtain ⟨⟨kr, kk, x0, x1, x2⟩, -, -, -, -, rk⟩ := p5.2.1 r c1.1 c1.2
    have irb := r_isreader_y e (zbump S) r (by omega) hK p5.1.2 c1
    have hd1 := r_refuse e S 1 (by omega) hK (by decide)
    have r6 : r < 6 := by have := p5.1.2; omega
    by_cases c2 : 0 ≤ c ∧ c < zm S 37 4
    · have co := s_codeOf_y e S c (by omega) hK hP hC c2
      obtain ⟨⟨kc, -⟩, ⟨-, -, cn, N24, -⟩, -⟩ := hC.2.2.1 c c2.1 c2.2
      have c03 : c < 3 := by have := hC.2.1; omega
      have icb := r_isCode' e (zbump S) c (by omega) hKb hC.2.1
      rw [qb_p (show 0 ≤ c ∧ c ≤ zm (zbump S) 37 4 - 1 by show 0 ≤ c ∧ c ≤ zm S 37 4 - 1; omega)] at icb
      have zN : z32 (zm S 39 c - 1) = zm S 39 c - 1 := q32 (by omega)
      have p5' := P_37_5 hP
      by_cases c3 : 0 ≤ x ∧ x < zm S 39 c
      · -- it is taught
        obtain ⟨K1, K2, K3⟩ := rk c c2.1 c03
        obtain ⟨v, hv, v24⟩ := zor_24 (K := zm S 91 (3 * r + c)) ⟨K2, K3⟩ (x := x) ⟨c3.1, by omega⟩
        obtain ⟨y, hy⟩ : ∃ y, zm S 14 r = y := ⟨_, rfl⟩
        rw [hy] at ro kr kk x0 x1 x2 K1
        have sb := s_bitCount e v (qW S (qu (zm S) (y + 1) c (v : Int))) (by omega) v24
        have ey : qu (zm S) (y + 1) c (v : Int) y = zm S y := qu_o _ _ _ _ _ (by omega)
        refine Or.inl ⟨(qpc 24 v : Nat), qW S (qu (zm S) (y + 1) c (v : Int)), ?_, qKs_w S _ (qu_o _ _ _ _ _ (by omega)), ?_⟩
        · simp (config := { maxSteps := 2000000 }) (disch := first | omega | (simp only [K_3 hK, kr, kk, x2, ey, c2.1, c03, qb_in, qkW, qmW, qnW, true_and, and_true, or_self, true_or, or_true, and_self]; done) | (simp only [K_3 hK, kr, kk, x2, ey, c2.1, c03, qb_in, qkW, qmW, qnW, true_and, and_true, or_self, true_or, or_true, and_self]; omega)) only [zD_142, b142_0, b142_5, b142_12, b142_18, b142_27, b142_38, b142_51, b142_61, qcall_l, qcall_r, qretn_l, qJ_s, qJ_n, qV0, qEx, ↓qif0, ↓zchk_pos, ↓reduceIte, qput, qWW, qmW, qkW, qnW, K_3 hK, ro, co, kr, kk, kc, cn, if_neg (show ¬ x < 0 by omega), if_pos c3.2, x2, K1, hv, ey, qu_s, sb]
        · obtain ⟨m1, hm1⟩ : ∃ m1, qu (qu (zm S) (y + 1) c (v : Int)) 102 0 (qid (qpc 24 v : Nat)) = m1 := ⟨_, rfl⟩
          have hq : qo (qW S (qu (zm S) (y + 1) c (v : Int))) (qid (qpc 24 v : Nat)) = qW S m1 := by rw [← hm1]; rfl
          have k1 : ∀ z, z ≠ 102 → z ≠ y + 1 → m1 z = zm S z := fun z h1 h2 => by rw [← hm1, qu_o _ _ _ _ _ h1, qu_o _ _ _ _ _ h2]
          have k37 : m1 37 = zm S 37 := k1 37 (by decide) (by omega)
          have ir := r_isreader_y e (qW S m1) r (by omega) hK (by show 0 ≤ m1 37 76 ∧ m1 37 76 ≤ 6; rw [k37]; exact p5.1.2) (by show 0 ≤ r ∧ r < m1 37 76; rw [k37]; exact c1)
          have ic := r_isCode' e (qW S m1) c (by omega) hK (by show 0 ≤ m1 37 4 ∧ m1 37 4 ≤ 3; rw [k37]; exact hC.2.1)
          rw [qb_p (show 0 ≤ c ∧ c ≤ zm (qW S m1) 37 4 - 1 by show 0 ≤ c ∧ c ≤ m1 37 4 - 1; rw [k37]; omega)] at ic
          have ii := r_in e x 0 (zm S 39 c - 1) (qW S m1) (by omega)
          rw [qb_p (show 0 ≤ x ∧ x ≤ zm S 39 c - 1 by omega)] at ii
          have hd := r_hold0 e S m1 (by omega) hK
          obtain ⟨m2, hm2⟩ : ∃ m2, qu m1 37 0 0 = m2 := ⟨_, rfl⟩
          rw [hm2] at hd
          have k2 : ∀ z, z ≠ 102 → z ≠ y + 1 → z ≠ 37 → m2 z = zm S z := fun z h1 h2 h3 => by rw [← hm2, qu_o _ _ _ _ _ h3, k1 z h1 h2]
          have e78 : m2 37 78 = 91 := by rw [← hm2, qu_i _ _ _ _ _ (by decide), k37]; exact P_37_78 hP
          have q5 : m1 37 5 = 39 := by rw [k37, p5']
          have q39 : m1 39 = zm S 39 := k1 39 (by decide) (by omega)
          have q91 : m2 91 = zm S 91 := k2 91 (by decide) (by omega) (by decide)
          have z1 : z32 (3 * r) = 3 * r := q32 (by omega)
          have z2 : z32 (3 * r + c) = 3 * r + c := q32 (by omega)
          obtain ⟨m3, hm3⟩ : ∃ m3, qu m2 91 (3 * r + c) (v : Int) = m3 := ⟨_, rfl⟩
          have f78 : m3 37 78 = 91 := by rw [← hm3, qu_o _ _ _ _ _ (by decide), e78]
          have f91 : m3 91 (3 * r + c) = (v : Int) := by rw [← hm3, qu_s]
          have rb := r_bits e v (qW S m3) (by omega) v24
          have k3 : ∀ z, z ≠ 102 → z ≠ y + 1 → z ≠ 37 → z ≠ 91 → m3 z = zm S z := fun z h1 h2 h3 h4 => by rw [← hm3, qu_o _ _ _ _ _ h4, k2 z h1 h2 h3]
          have k3' : ∀ j, j ≠ 0 → m3 37 j = zm S 37 j := fun j hj => by rw [← hm3, qu_o _ _ _ _ _ (by decide), ← hm2, qu_i _ _ _ _ _ hj, k37]
          have k91 : ∀ i, m3 91 i = if i = 3 * r + c then (v : Int) else zm S 91 i := fun i => by rw [← hm3, qu_row, q91]
          have ky : ∀ i, m3 (y + 1) i = if i = c then (v : Int) else zm S (y + 1) i := fun i => by
            rw [← hm3, qu_o _ _ _ _ _ (by omega), ← hm2, qu_o _ _ _ _ _ (by omega), ← hm1, qu_o _ _ _ _ _ (by omega), qu_row]
          refine ⟨qW S m3, ?_, qKs_w S _ (k3 1 (by decide) (by omega) (by decide) (by decide)), ?_, ?_, q6_w ?_ (k3' 16 (by decide)) (k3' 65 (by decide)) (Or.inl (k3' 50 (by decide))) (hI_e (fun j hj => k3' j (by omega)) fun z hz => k3 z (by omega) (by omega) (by omega) (by omega))⟩
          · rw [hq]
            simp (config := { maxSteps := 2000000 }) (disch := first | omega | (simp only [K_37 hK, K_39 hK, K_91 hK, q5, q39, e78, z1, z2, f78, c2.1, c03, qb_in, qkW, qmW, qnW, true_and, and_true, or_self, true_or, or_true, and_self]; done) | (simp only [K_37 hK, K_39 hK, K_91 hK, q5, q39, e78, z1, z2, f78, c2.1, c03, qb_in, qkW, qmW, qnW, true_and, and_true, or_self, true_or, or_true, and_self]; omega)) only [zD_291, b291_0, b291_5, b291_8, b291_13, b291_16, b291_29, b291_32, b291_36, b291_37, b291_45, b291_49, b291_50, b291_53, b291_56, b291_58, b291_70, b291_82, b291_87, qcall_l, qcall_r, qretn_l, qJ_s, qJ_n, qV0, qEx, ↓qif0, ↓zchk_pos, ↓reduceIte, qput, qWW, qmW, qkW, qnW, K_37 hK, K_39 hK, K_91 hK, ir, ic, ii, hd, q5, q39, zN, e78, z1, z2, q91, hv, hm3, f78, f91, rb, Int.reduceEq]
          · show m3 37 0 = 0
            rw [← hm3, qu_o _ _ _ _ _ (by decide), ← hm2, qu_s]
          · show m3 102 0 = _
            rw [← hm3, qu_o _ _ _ _ _ (by decide), ← hm2, qu_o _ _ _ _ _ (by decide), ← hm1, qu_s]
          · refine qk_teach hH (qAg_w fun z j hz => ?_) ⟨?_, fun i i1 i2 => ?_, fun i k i1 i2 k2 => ?_, fun i i1 i2 => ?_⟩
            · have kq := qknn kk
              by_cases z1 : z = y + 1
              · exact absurd (by unfold qEk_teach; rw [z1]; omega) hz
              · by_cases z2 : z = 37
                · subst z2
                  exact k3' j fun q => hz (by unfold qEk_teach; omega)
                · exact congrFun (k3 z (fun q => hz (by unfold qEk_teach; omega)) z1 z2 fun q => hz (by unfold qEk_teach; omega)) j
            · unfold qNr
              show m3 3 11 = m3 37 76 ∧ 0 ≤ m3 37 76 ∧ m3 37 76 ≤ 6
              rw [k3 3 (by decide) (by omega) (by decide) (by decide), k3' 76 (by decide)]
              exact p5.1
            · have i2 : i < m3 37 76 := i2
              rw [k3' 76 (by decide)] at i2
              obtain ⟨⟨b1, b2, b3, b4, b5⟩, g0, g1, g2, g3, g4⟩ := p5.2.1 i i1 i2
              have ne1 : zm S 14 i ≠ y + 1 := qkne b1 kk (by decide)
              have e14 : m3 14 = zm S 14 := k3 14 (by decide) (by omega) (by decide) (by decide)
              have exi : m3 (zm S 14 i) = zm S (zm S 14 i) := k3 _ (by omega) ne1 (by omega) (by omega)
              show (zk S (m3 14 i) = (27, 0) ∧ zk S (m3 14 i + 1) = (0, 3) ∧ 103 ≤ m3 14 i ∧ m3 14 i + 2 ≤ zn S ∧ m3 (m3 14 i) 1 = m3 14 i + 1) ∧ m3 (m3 14 i) 0 = m3 90 i ∧ (0 ≤ m3 90 i ∧ m3 90 i ≤ 2) ∧ m3 (m3 14 i) 3 = m3 92 i ∧ (-2147483648 ≤ m3 92 i ∧ m3 92 i < 2147483648) ∧ (∀ c, 0 ≤ c → c < 3 → m3 (m3 14 i + 1) c = m3 91 (3 * i + c) ∧ 0 ≤ m3 91 (3 * i + c) ∧ m3 91 (3 * i + c) < 16777216)
              rw [e14, exi, k3 90 (by decide) (by omega) (by decide) (by decide), k3 92 (by decide) (by omega) (by decide) (by decide)]
              refine ⟨⟨b1, b2, b3, b4, b5⟩, g0, g1, g2, g3, fun c' d1 d2 => ?_⟩
              rw [k91]
              by_cases q : i = r
              · subst q
                rw [hy, ky]
                by_cases q2 : c' = c
                · subst q2
                  rw [if_pos rfl, if_pos rfl]
                  omega
                · rw [if_neg q2, if_neg (by omega)]
                  have := g4 c' d1 d2
                  rw [hy] at this
                  exact this
              · have ne2 : zm S 14 i ≠ y := by
                  rcases Int.lt_or_gt_of_ne q with q3 | q3
                  · rw [← hy]; exact p5.2.2.1 i r i1 q3 c1.2
                  · rw [← hy]; exact Ne.symm (p5.2.2.1 r i c1.1 q3 i2)
                rw [if_neg (by omega), k3 _ (by omega) (by omega) (by omega) (by omega)]
                exact g4 c' d1 d2
            · have k2 : k < m3 37 76 := k2
              rw [k3' 76 (by decide)] at k2
              show m3 14 i ≠ m3 14 k
              rw [k3 14 (by decide) (by omega) (by decide) (by decide)]
              exact p5.2.2.1 i k i1 i2 k2
            · have i1 : m3 37 76 ≤ i := i1
              rw [k3' 76 (by decide)] at i1
              obtain ⟨g1, g2⟩ := p5.2.2.2 i i1 i2
              refine ⟨?_, fun c' d1 d2 => ?_⟩
              · show m3 92 i = 0
                rw [k3 92 (by decide) (by omega) (by decide) (by decide), g1]
              · show m3 91 (3 * i + c') = 0
                rw [k91, if_neg (by omega)]
                exact g2 c' d1 d2
      · refine qUn_n6 hH ⟨2, ?_, ?_, by decide⟩
        · by_cases c4 : x < 0
          · simp (config := { maxSteps := 2000000 }) (disch := first | omega | (simp only [K_3 hK, kr, kc, qb_in, qkW, qmW, qnW, true_and, and_true, or_self, true_or, or_true, and_self]; done) | (simp only [K_3 hK, kr, kc, qb_in, qkW, qmW, qnW, true_and, and_true, or_self, true_or, or_true, and_self]; omega)) only [zD_142, b142_0, b142_5, b142_12, b142_18, b142_27, b142_38, b142_51, b142_61, qcall_l, qcall_r, qretn_l, qJ_s, qJ_n, qV0, qEx, ↓qif0, ↓zchk_pos, ↓reduceIte, qput, qWW, qmW, qkW, qnW, K_3 hK, ro, co, kr, kc, if_pos c4]
          · simp (config := { maxSteps := 2000000 }) (disch := first | omega | (simp only [K_3 hK, kr, kc, qb_in, qkW, qmW, qnW, true_and, and_true, or_self, true_or, or_true, and_self]; done) | (simp only [K_3 hK, kr, kc, qb_in, qkW, qmW, qnW, true_and, and_true, or_self, true_or, or_true, and_self]; omega)) only [zD_142, b142_0, b142_5, b142_12, b142_18, b142_27, b142_38, b142_51, b142_61, qcall_l, qcall_r, qretn_l, qJ_s, qJ_n, qV0, qEx, ↓qif0, ↓zchk_pos, ↓reduceIte, qput, qWW, qmW, qkW, qnW, K_3 hK, ro, co, kr, kc, cn, if_neg c4, if_neg (show ¬ x < zm S 39 c by omega)]
        · have ii := r_in e x 0 (zm S 39 c - 1) (zbump S) (by omega)
          rw [qb_n (show ¬ (0 ≤ x ∧ x ≤ zm S 39 c - 1) by omega)] at ii
          have e5 : zm (zbump S) 37 5 = 39 := p5'
          have e39 : zm (zbump S) 39 c = zm S 39 c := rfl
          simp (config := { maxSteps := 2000000 }) (disch := first | omega | (simp only [K_37 hKb, K_39 hKb, e5, c2.1, c03, qb_in, qkW, qmW, qnW, true_and, and_true, or_self, true_or, or_true, and_self]; done) | (simp only [K_37 hKb, K_39 hKb, e5, c2.1, c03, qb_in, qkW, qmW, qnW, true_and, and_true, or_self, true_or, or_true, and_self]; omega)) only [zD_291, b291_0, b291_5, b291_8, b291_13, b291_16, b291_29, b291_32, b291_36, b291_37, b291_45, b291_49, b291_50, b291_53, b291_56, b291_58, b291_70, b291_82, b291_87, qcall_l, qcall_r, qretn_l, qJ_s, qJ_n, qV0, qEx, ↓qif0, ↓zchk_pos, ↓reduceIte, qput, qWW, qmW, qkW, qnW, K_37 hKb, K_39 hKb, irb, icb, e5, e39, zN, ii, hd1, Int.reduceEq]
          rfl
    · refine qUn_n6 hH ⟨2, ?_, ?_, by decide⟩
      · have co := s_codeOf_n e S c (by omega) hK hC c2
        simp (config := { maxSteps := 2000000 }) (disch := first | omega | (simp only [K_3 hK, kr, qb_in, qkW, qmW, qnW, true_and, and_true, or_self, true_or, or_true, and_self]; done) | (simp only [K_3 hK, kr, qb_in, qkW, qmW, qnW, true_and, and_true, or_self, true_or, or_true, and_self]; omega)) only [zD_142, b142_0, b142_5, b142_12, b142_18, b142_27, b142_38, b142_51, b142_61, qcall_l, qcall_r, qretn_l, qJ_s, qJ_n, qV0, qEx, ↓qif0, ↓zchk_pos, ↓reduceIte, qput, qWW, qmW, qkW, qnW, K_3 hK, ro, co, kr]
      · have ic := r_isCode' e (zbump S) c (by omega) hKb hC.2.1
        rw [qb_n (show ¬ (0 ≤ c ∧ c ≤ zm (zbump S) 37 4 - 1) by show ¬ (0 ≤ c ∧ c ≤ zm S 37 4 - 1); omega)] at ic
        simp (config := { maxSteps := 2000000 }) (disch := first | omega | (simp only [K_37 hKb, qb_in, qkW, qmW, qnW, true_and, and_true, or_self, true_or, or_true, and_self]; done) | (simp only [K_37 hKb, qb_in, qkW, qmW, qnW, true_and, and_true, or_self, true_or, or_true, and_self]; omega)) only [zD_291, b291_0, b291_5, b291_8, b291_13, b291_16, b291_29, b291_32, b291_36, b291_37, b291_45, b291_49, b291_50, b291_53, b291_56, b291_58, b291_70, b291_82, b291_87, qcall_l, qcall_r, qretn_l, qJ_s, qJ_n, qV0, qEx, ↓qif0, ↓zchk_pos, ↓reduceIte, qput, qWW, qmW, qkW, qnW, K_37 hKb, irb, ic, hd1, Int.reduceEq]
        rfl
  · exact qUn_n6 hH (q_teach_n d S r c x (by omega) hK p5.1 c1)
theorem j_wish_y5 (e : Nat) (S : zS) (r b : Int) (he : 14 ≤ e) (hH : qHC S) (c1 : 0 ≤ r ∧ r < zm S 37 76) (c2 : 0 ≤ b ∧ b < zm S 37 16) (hu : quk (zm S) r b = 0) (hw0 : qwi (zm S) r b (zm S 37 80).toNat = -1) (hq : qhl (zm S) r b (zm S 37 65).toNat = 0) (c6 : zm S 37 80 < 30) :
    qUn vi qid (qG6 S) S (zD (e + 1) 144 [vr 3, vi r, vi b] S) (zD (e + 1) 296 [vr 37, vi r, vi b]) qpsE := by
  obtain ⟨⟨⟨⟨hK, hP, hL, hn⟩, ⟨hT, hC, hR, hk⟩, ⟨p1, p2, p3, p4, p5, p6⟩, hY⟩, hBB⟩, hYC, hFc⟩ := id hH
  have ro := s_readerOf_y e S r (by omega) hK hP p5.1 c1
  have r6 : 0 ≤ r ∧ r < 6 := ⟨c1.1, by have := p5.1.2; omega⟩
  have bo := s_bookOf_y e S b (by omega) hK hP hY.1 c2
  have su := s_countUnknown e S r b (by omega) hH.1 c1 c2
  have fi := s_find e S r b (by omega) hK hP p3
  have hc := s_hasCopyOf e S r b (by omega) hK hP p4 (by omega)
  obtain ⟨n80, n80b, n80c⟩ := p3.1
  have n65 := p4.1.2
  have p17 : ∀ i, 0 ≤ i → i < zm S 37 80 → zm S 17 i = zm S 94 i := fun i i1 i2 => (p3.2.1 i i1 i2).2.1
  have n76 := p5.1.2
  rw [hu] at su
  rw [hw0] at fi
  rw [hq] at hc
  clear p1 p2 p3 p4 p5 p6 hT hR hk hYC hFc
  obtain ⟨n, hnn⟩ : ∃ n : Nat, zm S 37 80 = (n : Int) := ⟨(zm S 37 80).toNat, by omega⟩
  rw [hnn] at n80 n80b n80c c6
  have zr : -2147483648 ≤ (n : Int) + 1 ∧ (n : Int) + 1 < 2147483648 := by omega
  have wa := s_wishAppend e S r b n (by omega) hK hP n80 ⟨by omega, c6⟩
  obtain ⟨A, hA⟩ : ∃ A, qu (qu (qu (zm S) 16 n r) 17 n b) 15 2 ((n : Int) + 1) = A := ⟨_, rfl⟩
  rw [hA] at wa
  have A17 : ∀ i, A 17 i = if i = (n : Int) then b else zm S 17 i := fun i => by rw [← hA, qu_o _ _ _ _ _ (by decide), qu_row, qu_o _ _ _ _ _ (by decide)]
  have A16 : ∀ i, A 16 i = if i = (n : Int) then r else zm S 16 i := fun i => by rw [← hA, qu_o _ _ _ _ _ (by decide), qu_o _ _ _ _ _ (by decide), qu_row]
  have A15 : A 15 2 = ((n + 1 : Nat) : Int) := by rw [← hA, qu_s]; rfl
  have Ao : ∀ z, z ≠ 15 → z ≠ 16 → z ≠ 17 → A z = zm S z := fun z z1 z2 z3 => by rw [← hA, qu_o _ _ _ _ _ z1, qu_o _ _ _ _ _ z3, qu_o _ _ _ _ _ z2]
  have A5 : ∀ j, j ≠ 2 → A 15 j = zm S 15 j := fun j hj => by rw [← hA, qu_i _ _ _ _ _ hj, qu_o _ _ _ _ _ (by decide), qu_o _ _ _ _ _ (by decide)]
  have HA : qHB1 (qW S A) := qHB1_m (qHB1_0 hH.1) (qAg_w fun z j hz => by
    by_cases z1 : z = 15
    · subst z1
      exact A5 j fun q => hz (by unfold qEh; omega)
    · exact congrFun (Ao z z1 (fun q => hz (by unfold qEh; omega)) fun q => hz (by unfold qEh; omega)) j)
  have hPA : qP A := HA.1.1.2.1
  have cf := s_countFor2 e (qW S A) b (n + 1) (by omega) hK hPA A15 (by omega)
  obtain ⟨v, hv⟩ : ∃ v, qcv (A 17) b (n + 1) = v := ⟨_, rfl⟩
  rw [show qcv (zm (qW S A) 17) b (n + 1) = v from hv] at cf
  have x3 : A 3 = zm S 3 := Ao 3 (by decide) (by decide) (by decide)
  have x12 : A 3 12 = 15 := by rw [x3]; exact P_3_12 hP
  refine Or.inl ⟨v, qW S A, ?_, qKs_w S _ (Ao 1 (by decide) (by decide) (by decide)), ?_⟩
  · simp (config := { maxSteps := 2000000 }) (disch := first | omega | (simp only [K_3 hK, K_15 hK, P_3_12 hP, x12, qb_in, qkW, qmW, qnW, true_and, and_true, or_self, true_or, or_true, and_self]; done) | (simp only [K_3 hK, K_15 hK, P_3_12 hP, x12, qb_in, qkW, qmW, qnW, true_and, and_true, or_self, true_or, or_true, and_self]; omega)) only [zD_144, b144_0, b144_5, b144_10, b144_13, b144_16, b144_27, b144_36, b144_40, b144_46, b144_49, b144_61, b144_72, b144_81, b144_89, qcall_l, qcall_r, qretn_l, qJ_s, qJ_n, qV0, qEx, ↓qif0, ↓zchk_pos, ↓reduceIte, qput, qWW, qmW, qkW, qnW, K_3 hK, K_15 hK, P_3_12 hP, ro, bo, su, Int.lt_irrefl, fi, hc, n80, if_pos c6, wa, x12, cf, Int.reduceEq]
  · obtain ⟨m1, hm1⟩ : ∃ m1, qu A 102 0 (qid v) = m1 := ⟨_, rfl⟩
    have hq1 : qo (qW S A) (qid v) = qW S m1 := by rw [← hm1]; rfl
    have k1 : ∀ z, z ≠ 102 → m1 z = A z := fun z h1 => by rw [← hm1, qu_o _ _ _ _ _ h1]
    have k1s : ∀ z, z ≠ 102 → z ≠ 15 → z ≠ 16 → z ≠ 17 → m1 z = zm S z := fun z h1 h2 h3 h4 => by rw [k1 z h1, Ao z h2 h3 h4]
    have H1 : qHB1 (qW S m1) := by
      rw [← hm1]
      exact qHB_q HA (qFq_o (S := qW S A) (qFq_r (qW S A)) _)
    have k37 : m1 37 = zm S 37 := k1s 37 (by decide) (by decide) (by decide) (by decide)
    have ir := r_isreader_y e (qW S m1) r (by omega) hK (by show 0 ≤ m1 37 76 ∧ m1 37 76 ≤ 6; rw [k37]; exact n76) (by show 0 ≤ r ∧ r < m1 37 76; rw [k37]; exact c1)
    have ib := r_isbook_y e (qW S m1) b (by omega) hK H1.1.2.2.1.2 (by show 0 ≤ b ∧ b < m1 37 16; rw [k37]; exact c2)
    obtain ⟨m3, r3, f3, H3, l50⟩ := r_unknownTo e (qW S m1) r b (by omega) H1 r6 (by show 0 ≤ b ∧ b < m1 37 16; rw [k37]; exact c2)
    rw [show quk (zm (qW S m1)) r b = 0 from (quk_e hH.1 c2 (k1s 8 (by decide) (by decide) (by decide) (by decide)) (k1s 49 (by decide) (by decide) (by decide) (by decide)) (k1s 54 (by decide) (by decide) (by decide) (by decide)) (k1s 91 (by decide) (by decide) (by decide) (by decide)) fun x hx => k1s x (by omega) (by omega) (by omega) (by omega)).trans hu] at r3
    have r3 : zD e 292 [vr 37, vi r, vi b] (qW S m1) = some (.inl (some (vi 0)), qW S m3) := r3
    have l3 : ∀ x, 81 ≤ x → x ≤ 94 → m3 x = zm S x := fun x x1 x2 => by
      rw [← k1s x (by omega) (by omega) (by omega) (by omega)]
      exact funext fun i => f3 x i (by unfold qfly; omega)
    have q80 : m3 37 80 = (n : Int) := by rw [← hnn, ← k37]; exact f3 37 80 (by unfold qfly; omega)
    have q65 : m3 37 65 = zm S 37 65 := by rw [← k37]; exact f3 37 65 (by unfold qfly; omega)
    have hP3 : qP m3 := H3.1.1.2.1
    have wo := r_wishOf e (qW S m3) r b (by omega) hK hP3 (by show 0 ≤ m3 37 80 ∧ m3 37 80 ≤ 30; omega)
    have hl := r_held e (qW S m3) r b (by omega) hK hP3 (by show 0 ≤ m3 37 65 ∧ m3 37 65 ≤ 20; omega)
    rw [show qwi (zm (qW S m3)) r b (zm (qW S m3) 37 80).toNat = -1 by show qwi m3 r b (m3 37 80).toNat = _; rw [q80, ← hnn, ← hw0]; exact qwi_e (l3 94 (by decide) (by decide)) (l3 93 (by decide) (by decide)) r b _] at wo
    rw [show qhl (zm (qW S m3)) r b (zm (qW S m3) 37 65).toNat = 0 by show qhl m3 r b (m3 37 65).toNat = _; rw [q65, ← hq]; exact qhl_e (l3 86 (by decide) (by decide)) (l3 82 (by decide) (by decide)) r b _] at hl
    have hd := r_hold0 e S m3 (by omega) hK
    obtain ⟨m4, hm4⟩ : ∃ m4, qu m3 37 0 0 = m4 := ⟨_, rfl⟩
    rw [hm4] at hd
    have y80 : m4 37 80 = (n : Int) := by rw [← hm4, qu_i _ _ _ _ _ (by decide), q80]
    have y81 : m4 37 81 = 93 := by rw [← hm4, qu_i _ _ _ _ _ (by decide)]; exact P_37_81 hP3
    have y82 : m4 37 82 = 94 := by rw [← hm4, qu_i _ _ _ _ _ (by decide)]; exact P_37_82 hP3
    have B1 : qu m4 93 n r 37 = m4 37 := qu_o _ _ _ _ _ (by decide)
    have B2 : qu (qu m4 93 n r) 94 n b 37 = m4 37 := by rw [qu_o _ _ _ _ _ (by decide), B1]
    obtain ⟨m5, hm5⟩ : ∃ m5, qu (qu (qu m4 93 n r) 94 n b) 37 80 ((n : Int) + 1) = m5 := ⟨_, rfl⟩
    have w80 : m5 37 80 = ((n + 1 : Nat) : Int) := by rw [← hm5, qu_s]; rfl
    have w82 : m5 37 82 = 94 := by rw [← hm5, qu_i _ _ _ _ _ (by decide), B2, y82]
    have w94 : ∀ i, m5 94 i = if i = (n : Int) then b else zm S 94 i := fun i => by rw [← hm5, qu_o _ _ _ _ _ (by decide), qu_row, qu_o _ _ _ _ _ (by decide), ← hm4, qu_o _ _ _ _ _ (by decide), l3 94 (by decide) (by decide)]
    have w93 : ∀ i, m5 93 i = if i = (n : Int) then r else zm S 93 i := fun i => by rw [← hm5, qu_o _ _ _ _ _ (by decide), qu_o _ _ _ _ _ (by decide), qu_row, ← hm4, qu_o _ _ _ _ _ (by decide), l3 93 (by decide) (by decide)]
    have wz : ∀ z, z ≠ 37 → z ≠ 93 → z ≠ 94 → m5 z = m3 z := fun z h1 h2 h3 => by rw [← hm5, qu_o _ _ _ _ _ h1, qu_o _ _ _ _ _ h3, qu_o _ _ _ _ _ h2, ← hm4, qu_o _ _ _ _ _ h1]
    have w37 : ∀ j, j ≠ 0 → j ≠ 80 → m5 37 j = m3 37 j := fun j h1 h2 => by rw [← hm5, qu_i _ _ _ _ _ h2, B2, ← hm4, qu_i _ _ _ _ _ h1]
    have ct := r_wishCount e S m5 b (n + 1) vu vu vu hK w80 w82 (by omega) (n + 1) 0 vu (by omega)
    have ev : qcv (m5 94) b (n + 1) = v := by
      rw [← hv]
      refine qcv_c _ _ fun i hi => ?_
      rw [w94, A17]
      by_cases ci : (i : Int) = n
      · rw [if_pos ci, if_pos ci]
      · rw [if_neg ci, if_neg ci]
        exact (p17 i (Int.natCast_nonneg i) (by rw [hnn]; omega)).symm
    rw [ev] at ct
    have ct : zF_296 e 133 [vr 37, vu, vi b, vu, vu, vi 0, vi 0] [] (qW S m5) = some (.inl (some (vi v)), qW S m5) := ct
    have ct1 : zF_296 e 133 [vr 37, vi r, vi b, vu, vu, vi 0, vi 0] [] (qW S m5) = some (.inl (some (vi v)), qW S m5) := by
      rw [b296_133] at ct ⊢
      exact ct
    -- what is known behind it
    obtain ⟨mT, hmT⟩ : ∃ mT, qu (qu (qu m1 93 n r) 94 n b) 37 80 ((n : Int) + 1) = mT := ⟨_, rfl⟩
    have T37 : ∀ j, j ≠ 80 → mT 37 j = zm S 37 j := fun j hj => by rw [← hmT, qu_i _ _ _ _ _ hj, qu_o _ _ _ _ _ (by decide), qu_o _ _ _ _ _ (by decide), k37]
    have T80 : mT 37 80 = (n : Int) + 1 := by rw [← hmT, qu_s]
    have T94 : ∀ i, mT 94 i = if i = (n : Int) then b else zm S 94 i := fun i => by rw [← hmT, qu_o _ _ _ _ _ (by decide), qu_row, qu_o _ _ _ _ _ (by decide), k1s 94 (by decide) (by decide) (by decide) (by decide)]
    have T93 : ∀ i, mT 93 i = if i = (n : Int) then r else zm S 93 i := fun i => by rw [← hmT, qu_o _ _ _ _ _ (by decide), qu_o _ _ _ _ _ (by decide), qu_row, k1s 93 (by decide) (by decide) (by decide) (by decide)]
    have Tz : ∀ z, z ≠ 37 → z ≠ 93 → z ≠ 94 → mT z = m1 z := fun z h1 h2 h3 => by rw [← hmT, qu_o _ _ _ _ _ h1, qu_o _ _ _ _ _ h3, qu_o _ _ _ _ _ h2]
    have HT : qHC (qW S mT) := q_wish_T hH c1 c2 hnn c6 hw0 T80 T37 (fun i => by rw [Tz 16 (by decide) (by decide) (by decide), k1 16 (by decide), A16]) (fun i => by rw [Tz 17 (by decide) (by decide) (by decide), k1 17 (by decide), A17]) T93 T94 (by rw [Tz 15 (by decide) (by decide) (by decide), k1 15 (by decide), A15]; rfl) (fun j hj => by rw [Tz 15 (by decide) (by decide) (by decide), k1 15 (by decide), A5 j hj]) (fun z h1 h2 h3 h4 h5 h6 h7 => by rw [Tz z h1 h2 h3, k1 z h4, Ao z h5 h6 h7])
    have f5 : qF0 mT m5 := fun z i hz => by
      by_cases q1 : z = 37
      · subst q1
        by_cases q2 : i = 80
        · rw [q2, w80, T80]; rfl
        · rw [w37 i (fun q => hz (Or.inr ⟨rfl, q⟩)) q2, T37 i q2, f3 37 i (fun q => hz (Or.inl q))]
          show m1 37 i = _
          rw [k37]
      · by_cases q2 : z = 93
        · subst q2
          rw [w93, T93]
        · by_cases q3 : z = 94
          · subst q3
            rw [w94, T94]
          · rw [wz z q1 q2 q3, Tz z q1 q2 q3]
            exact f3 z i fun q => hz (Or.inl q)
    have H5 : qHB1 (qW S m5) := qHB1_m (S := qW S m3) H3 ⟨⟨Nat.le_refl _, fun _ _ => rfl⟩, fun z j _ hz => by
      show m5 z j = m3 z j
      by_cases q1 : z = 37
      · subst q1
        exact w37 j (fun q => hz (by unfold qEh; omega)) fun q => hz (by unfold qEh; omega)
      · rw [wz z q1 (fun q => hz (by unfold qEh; omega)) fun q => hz (by unfold qEh; omega)]⟩
    have F5 : qFzz (qW S mT) m5 := qF0_z (S := qW S mT) f5
    have H6 : qHC (qW S m5) := qHC_z (S := qW S mT) HT F5 ⟨qH0_x (S := qW S mT) HT.1.1 F5.1, H5.2⟩
    refine ⟨qW S m5, ?_, qKs_w S _ ?_, ?_, ?_, q6_w H6 ?_ ?_ (q50_l ((w37 50 (by decide) (by decide)).trans l50.1) c2) (hI_e (fun j hj => by rw [w37 j (by omega) (by omega), show m3 37 j = m1 37 j from f3 37 j (by unfold qfly; omega), k37]) fun z hz => by rw [wz z (by omega) (by omega) (by omega), show m3 z = m1 z from funext fun i => f3 z i (by unfold qfly; omega), k1s z (by omega) (by omega) (by omega) (by omega)])⟩
    · rw [hq1]
      simp (config := { maxSteps := 2000000 }) (disch := first | omega | (simp only [K_37 hK, K_93 hK, K_94 hK, q80, y80, y81, y82, B1, B2, qb_in, qkW, qmW, qnW, true_and, and_true, or_self, true_or, or_true, and_self]; done) | (simp only [K_37 hK, K_93 hK, K_94 hK, q80, y80, y81, y82, B1, B2, qb_in, qkW, qmW, qnW, true_and, and_true, or_self, true_or, or_true, and_self]; omega)) only [zD_296, b296_0, b296_5, b296_8, b296_13, b296_16, b296_20, b296_21, b296_26, b296_32, b296_35, b296_41, b296_45, b296_51, b296_54, b296_63, b296_67, b296_68, b296_75, b296_79, b296_84, b296_88, b296_89, b296_92, b296_95, b296_97, b296_115, b296_130, b296_142, b296_155, b296_159, b296_160, b296_169, qcall_l, qcall_r, qretn_l, qJ_s, qJ_n, qV0, qEx, ↓qif0, ↓zchk_pos, ↓reduceIte, qput, qWW, qmW, qkW, qnW, K_37 hK, K_93 hK, K_94 hK, ir, ib, r3, wo, hl, q80, if_pos c6, hd, y80, y81, y82, B1, B2, q32 (x := (n : Int) + 1) zr, hm5, ct1, Int.reduceEq]
    · rw [wz 1 (by decide) (by decide) (by decide), show m3 1 = m1 1 from funext fun i => f3 1 i (by unfold qfly; omega), k1s 1 (by decide) (by decide) (by decide) (by decide)]
    · show m5 37 0 = 0
      rw [← hm5, qu_i _ _ _ _ _ (by decide), B2, ← hm4, qu_s]
    · show m5 102 0 = _
      rw [wz 102 (by decide) (by decide) (by decide), show m3 102 0 = m1 102 0 from f3 102 0 (by unfold qfly; omega), ← hm1, qu_s]
    · rw [w37 16 (by decide) (by decide), show m3 37 16 = m1 37 16 from f3 37 16 (by unfold qfly; omega), k37]
    · rw [w37 65 (by decide) (by decide), q65]
theorem j_wish5 (d : Nat) (S : zS) (r b : Int) (h : 15 ≤ d) (hH : qHC S) :
    qUn vi qid (qG6 S) S (zD d 144 [vr 3, vi r, vi b] S) (zD d 296 [vr 37, vi r, vi b]) qpsE := by
  obtain ⟨⟨⟨⟨hK, hP, hL, hn⟩, ⟨hT, hC, hR, hk⟩, ⟨p1, p2, p3, p4, p5, p6⟩, hY⟩, hBB⟩, hYC, hFc⟩ := id hH
  have hKb : qK (zbump S) := hK
  by_cases c1 : 0 ≤ r ∧ r < zm S 37 76
  · obtain ⟨e, rfl, he⟩ := qd h
    have ro := s_readerOf_y e S r (by omega) hK hP p5.1 c1
    have kr := (p5.2.1 r c1.1 c1.2).1.1
    have r6 : 0 ≤ r ∧ r < 6 := ⟨c1.1, by have := p5.1.2; omega⟩
    have irb := r_isreader_y e (zbump S) r (by omega) hK p5.1.2 c1
    by_cases c2 : 0 ≤ b ∧ b < zm S 37 16
    · have bo := s_bookOf_y e S b (by omega) hK hP hY.1 c2
      have kb := (hY.2.1 b c2.1 c2.2).1.1
      have su := s_countUnknown e S r b (by omega) hH.1 c1 c2
      have ibb := r_isbook_y e (zbump S) b (by omega) hK hY.1.2 c2
      have fi := s_find e S r b (by omega) hK hP p3
      have hc := s_hasCopyOf e S r b (by omega) hK hP p4 (by omega)
      obtain ⟨n80, n80b, n80c⟩ := p3.1
      have n65 := p4.1.2
      have uu : 0 ≤ quk (zm S) r b := (qnk_r _ _ _).1
      -- the reference, refused
      obtain ⟨m2, r2, f2, H2, l50⟩ := r_unknownTo e (zbump S) r b (by omega) (qHB1_0 hH.1) r6 c2
      have r2 : zD e 292 [vr 37, vi r, vi b] (zbump S) = some (.inl (some (vi (quk (zm S) r b))), zbump (qW S m2)) := r2
      have hKb2 : qK (zbump (qW S m2)) := hK
      have l2 : ∀ x, (81 ≤ x ∧ x ≤ 94) → m2 x = zm S x := fun x hx => funext fun i => f2 x i (by unfold qfly; omega)
      have e80 : m2 37 80 = zm S 37 80 := f2 37 80 (by unfold qfly; omega)
      have e65 : m2 37 65 = zm S 37 65 := f2 37 65 (by unfold qfly; omega)
      have wo := r_wishOf e (zbump (qW S m2)) r b (by omega) hKb2 H2.1.1.2.1 (by show 0 ≤ m2 37 80 ∧ m2 37 80 ≤ 30; omega)
      have hl := r_held e (zbump (qW S m2)) r b (by omega) hKb2 H2.1.1.2.1 (by show 0 ≤ m2 37 65 ∧ m2 37 65 ≤ 20; omega)
      rw [show qwi (zm (zbump (qW S m2))) r b (zm (zbump (qW S m2)) 37 80).toNat = qwi (zm S) r b (zm S 37 80).toNat by show qwi m2 r b (m2 37 80).toNat = _; rw [e80]; exact qwi_e (l2 94 (by decide)) (l2 93 (by decide)) r b _] at wo
      rw [show qhl (zm (zbump (qW S m2))) r b (zm (zbump (qW S m2)) 37 65).toNat = qhl (zm S) r b (zm S 37 65).toNat by show qhl m2 r b (m2 37 65).toNat = _; rw [e65]; exact qhl_e (l2 86 (by decide)) (l2 82 (by decide)) r b _] at hl
      have hd : zD e 182 [vr 37, vi 2] (zbump (qW S m2)) = some (.inl (some (vi 0)), zbump (qW S (qu m2 37 0 2))) := r_holdn e (zbump S) m2 2 (by omega) hK (by decide)
      have b80 : zm (zbump (qW S m2)) 37 80 = zm S 37 80 := e80
      have refused : ∀ R, R = some (.inr 1, zbump S) → zD (e + 1) 296 [vr 37, vi r, vi b] (zbump S) = some (.inl (some (vi 0)), zbump (qW S (qu m2 37 0 2))) → qUn vi qid (qG6 S) S R (zD (e + 1) 296 [vr 37, vi r, vi b]) qpsE := fun R hR hF => qUn_x6 hH 1 hR (by decide) ⟨qu m2 37 0 2, hF, qF0_t (qF0_l f2) (qF0_u m2 2), qu_s _ _ _ _, qHB_0 (S := S) H2 2, q50_l (b := b) (by rw [qu_i _ _ _ _ _ (by decide)]; exact l50.1) c2⟩
      obtain ⟨u, hu⟩ : ∃ u, quk (zm S) r b = u := ⟨_, rfl⟩
      obtain ⟨w, hw⟩ : ∃ w, qwi (zm S) r b (zm S 37 80).toNat = w := ⟨_, rfl⟩
      obtain ⟨q, hq⟩ : ∃ q, qhl (zm S) r b (zm S 37 65).toNat = q := ⟨_, rfl⟩
      rw [hu] at su r2 uu
      rw [hw] at fi wo
      rw [hq] at hc hl
      by_cases c3 : u = 0
      · by_cases c4 : w = -1
        · by_cases c5 : q = 0
          · by_cases c6 : zm S 37 80 < 30
            · exact j_wish_y5 e S r b he hH c1 c2 (hu.trans c3) (hw.trans c4) (hq.trans c5) c6
            · refine refused _ ?_ ?_
              · simp (config := { maxSteps := 2000000 }) (disch := first | omega | (simp only [K_3 hK, K_15 hK, P_3_12 hP, qb_in, qkW, qmW, qnW, true_and, and_true, or_self, true_or, or_true, and_self]; done) | (simp only [K_3 hK, K_15 hK, P_3_12 hP, qb_in, qkW, qmW, qnW, true_and, and_true, or_self, true_or, or_true, and_self]; omega)) only [zD_144, b144_0, b144_5, b144_10, b144_13, b144_16, b144_27, b144_36, b144_40, b144_46, b144_49, b144_61, b144_72, b144_81, b144_89, qcall_l, qcall_r, qretn_l, qJ_s, qJ_n, qV0, qEx, ↓qif0, ↓zchk_pos, ↓reduceIte, qput, qWW, qmW, qkW, qnW, K_3 hK, K_15 hK, P_3_12 hP, ro, bo, su, c3, Int.lt_irrefl, fi, c4, hc, c5, n80, if_neg c6, Int.reduceEq]
              · simp (config := { maxSteps := 2000000 }) (disch := first | omega | (simp only [K_37 hKb, K_37 hKb2, qb_in, qkW, qmW, qnW, true_and, and_true, or_self, true_or, or_true, and_self]; done) | (simp only [K_37 hKb, K_37 hKb2, qb_in, qkW, qmW, qnW, true_and, and_true, or_self, true_or, or_true, and_self]; omega)) only [zD_296, b296_0, b296_5, b296_8, b296_13, b296_16, b296_20, b296_21, b296_26, b296_32, b296_35, b296_41, b296_45, b296_51, b296_54, b296_63, b296_67, b296_68, b296_75, b296_79, b296_84, b296_88, b296_89, b296_92, b296_95, b296_97, b296_115, b296_130, b296_142, b296_155, b296_159, b296_160, b296_169, qcall_l, qcall_r, qretn_l, qJ_s, qJ_n, qV0, qEx, ↓qif0, ↓zchk_pos, ↓reduceIte, qput, qWW, qmW, qkW, qnW, K_37 hKb, K_37 hKb2, irb, ibb, r2, c3, wo, c4, hl, c5, b80, if_neg c6, hd, Int.reduceEq]
          · refine refused _ ?_ ?_
            · simp (config := { maxSteps := 2000000 }) (disch := first | omega | (simp only [K_3 hK, K_15 hK, P_3_12 hP, qb_in, qkW, qmW, qnW, true_and, and_true, or_self, true_or, or_true, and_self]; done) | (simp only [K_3 hK, K_15 hK, P_3_12 hP, qb_in, qkW, qmW, qnW, true_and, and_true, or_self, true_or, or_true, and_self]; omega)) only [zD_144, b144_0, b144_5, b144_10, b144_13, b144_16, b144_27, b144_36, b144_40, b144_46, b144_49, b144_61, b144_72, b144_81, b144_89, qcall_l, qcall_r, qretn_l, qJ_s, qJ_n, qV0, qEx, ↓qif0, ↓zchk_pos, ↓reduceIte, qput, qWW, qmW, qkW, qnW, K_3 hK, K_15 hK, P_3_12 hP, ro, bo, su, c3, Int.lt_irrefl, fi, c4, hc, if_neg c5, Int.reduceEq]
            · simp (config := { maxSteps := 2000000 }) (disch := first | omega | (simp only [K_37 hKb, K_37 hKb2, qb_in, qkW, qmW, qnW, true_and, and_true, or_self, true_or, or_true, and_self]; done) | (simp only [K_37 hKb, K_37 hKb2, qb_in, qkW, qmW, qnW, true_and, and_true, or_self, true_or, or_true, and_self]; omega)) only [zD_296, b296_0, b296_5, b296_8, b296_13, b296_16, b296_20, b296_21, b296_26, b296_32, b296_35, b296_41, b296_45, b296_51, b296_54, b296_63, b296_67, b296_68, b296_75, b296_79, b296_84, b296_88, b296_89, b296_92, b296_95, b296_97, b296_115, b296_130, b296_142, b296_155, b296_159, b296_160, b296_169, qcall_l, qcall_r, qretn_l, qJ_s, qJ_n, qV0, qEx, ↓qif0, ↓zchk_pos, ↓reduceIte, qput, qWW, qmW, qkW, qnW, K_37 hKb, K_37 hKb2, irb, ibb, r2, c3, wo, c4, hl, if_neg c5, hd, Int.reduceEq]
        · refine refused _ ?_ ?_
          · simp (config := { maxSteps := 2000000 }) (disch := first | omega | (simp only [K_3 hK, K_15 hK, P_3_12 hP, qb_in, qkW, qmW, qnW, true_and, and_true, or_self, true_or, or_true, and_self]; done) | (simp only [K_3 hK, K_15 hK, P_3_12 hP, qb_in, qkW, qmW, qnW, true_and, and_true, or_self, true_or, or_true, and_self]; omega)) only [zD_144, b144_0, b144_5, b144_10, b144_13, b144_16, b144_27, b144_36, b144_40, b144_46, b144_49, b144_61, b144_72, b144_81, b144_89, qcall_l, qcall_r, qretn_l, qJ_s, qJ_n, qV0, qEx, ↓qif0, ↓zchk_pos, ↓reduceIte, qput, qWW, qmW, qkW, qnW, K_3 hK, K_15 hK, P_3_12 hP, ro, bo, su, c3, Int.lt_irrefl, fi, if_neg c4]
          · simp (config := { maxSteps := 2000000 }) (disch := first | omega | (simp only [K_37 hKb, K_37 hKb2, qb_in, qkW, qmW, qnW, true_and, and_true, or_self, true_or, or_true, and_self]; done) | (simp only [K_37 hKb, K_37 hKb2, qb_in, qkW, qmW, qnW, true_and, and_true, or_self, true_or, or_true, and_self]; omega)) only [zD_296, b296_0, b296_5, b296_8, b296_13, b296_16, b296_20, b296_21, b296_26, b296_32, b296_35, b296_41, b296_45, b296_51, b296_54, b296_63, b296_67, b296_68, b296_75, b296_79, b296_84, b296_88, b296_89, b296_92, b296_95, b296_97, b296_115, b296_130, b296_142, b296_155, b296_159, b296_160, b296_169, qcall_l, qcall_r, qretn_l, qJ_s, qJ_n, qV0, qEx, ↓qif0, ↓zchk_pos, ↓reduceIte, qput, qWW, qmW, qkW, qnW, K_37 hKb, K_37 hKb2, irb, ibb, r2, c3, wo, if_neg c4, hd, Int.reduceEq]
      · refine refused _ ?_ ?_
        · simp (config := { maxSteps := 2000000 }) (disch := first | omega | (simp only [K_3 hK, qb_in, qkW, qmW, qnW, true_and, and_true, or_self, true_or, or_true, and_self]; done) | (simp only [K_3 hK, qb_in, qkW, qmW, qnW, true_and, and_true, or_self, true_or, or_true, and_self]; omega)) only [zD_144, b144_0, b144_5, b144_10, b144_13, b144_16, b144_27, b144_36, b144_40, b144_46, b144_49, b144_61, b144_72, b144_81, b144_89, qcall_l, qcall_r, qretn_l, qJ_s, qJ_n, qV0, qEx, ↓qif0, ↓zchk_pos, ↓reduceIte, qput, qWW, qmW, qkW, qnW, K_3 hK, ro, bo, su, if_pos (show 0 < u by omega)]
        · simp (config := { maxSteps := 2000000 }) (disch := first | omega | (simp only [K_37 hKb, K_37 hKb2, qb_in, qkW, qmW, qnW, true_and, and_true, or_self, true_or, or_true, and_self]; done) | (simp only [K_37 hKb, K_37 hKb2, qb_in, qkW, qmW, qnW, true_and, and_true, or_self, true_or, or_true, and_self]; omega)) only [zD_296, b296_0, b296_5, b296_8, b296_13, b296_16, b296_20, b296_21, b296_26, b296_32, b296_35, b296_41, b296_45, b296_51, b296_54, b296_63, b296_67, b296_68, b296_75, b296_79, b296_84, b296_88, b296_89, b296_92, b296_95, b296_97, b296_115, b296_130, b296_142, b296_155, b296_159, b296_160, b296_169, qcall_l, qcall_r, qretn_l, qJ_s, qJ_n, qV0, qEx, ↓qif0, ↓zchk_pos, ↓reduceIte, qput, qWW, qmW, qkW, qnW, K_37 hKb, K_37 hKb2, irb, ibb, r2, if_neg c3, hd, Int.reduceEq]
    · refine qUn_n6 hH ⟨2, ?_, ?_, by decide⟩
      · have bo := s_bookOf_n e S b (by omega) hK hY.1 c2
        simp (config := { maxSteps := 2000000 }) (disch := first | omega | (simp only [K_3 hK, kr, qb_in, qkW, qmW, qnW, true_and, and_true, or_self, true_or, or_true, and_self]; done) | (simp only [K_3 hK, kr, qb_in, qkW, qmW, qnW, true_and, and_true, or_self, true_or, or_true, and_self]; omega)) only [zD_144, b144_0, b144_5, b144_10, b144_13, b144_16, b144_27, b144_36, b144_40, b144_46, b144_49, b144_61, b144_72, b144_81, b144_89, qcall_l, qcall_r, qretn_l, qJ_s, qJ_n, qV0, qEx, ↓qif0, ↓zchk_pos, ↓reduceIte, qput, qWW, qmW, qkW, qnW, K_3 hK, ro, bo, kr]
      · have ib := r_isbook_n e S b (by omega) hK hY.1.2 c2
        have hd := r_refuse e S 1 (by omega) hK (by decide)
        simp (config := { maxSteps := 2000000 }) (disch := first | omega | (simp only [K_37 hKb, qb_in, qkW, qmW, qnW, true_and, and_true, or_self, true_or, or_true, and_self]; done) | (simp only [K_37 hKb, qb_in, qkW, qmW, qnW, true_and, and_true, or_self, true_or, or_true, and_self]; omega)) only [zD_296, b296_0, b296_5, b296_8, b296_13, b296_16, b296_20, b296_21, b296_26, b296_32, b296_35, b296_41, b296_45, b296_51, b296_54, b296_63, b296_67, b296_68, b296_75, b296_79, b296_84, b296_88, b296_89, b296_92, b296_95, b296_97, b296_115, b296_130, b296_142, b296_155, b296_159, b296_160, b296_169, qcall_l, qcall_r, qretn_l, qJ_s, qJ_n, qV0, qEx, ↓qif0, ↓zchk_pos, ↓reduceIte, qput, qWW, qmW, qkW, qnW, K_37 hKb, irb, ib, hd, Int.reduceEq]
        rfl
  · exact qUn_n6 hH (q_wish_n d S r b (by omega) hK p5.1 c1)
theorem j_give_y5 (e : Nat) (S : zS) (k hu h b x y w t P : Int) (he : 14 ≤ e) (hH : qHC S) (hk : 0 ≤ k ∧ k < zm S 37 65) (hq : qCq S k b x y w t P) (h86 : zm S 86 k = h) (h0 : 0 ≤ h ∧ h < zm S 37 76) (hhu : hu = -1 ∨ (0 ≤ hu ∧ hu < P)) :
    qUn vi qid (qG6 S) S (zD (e + 1) 148 [vr 3, vi k, vi hu] S) (zD (e + 1) 303 [vr 37, vi k, vi hu]) qpsE := by
  obtain ⟨⟨⟨⟨hK, hP, hL, hn⟩, -, ⟨p1, p2, p3, p4, p5, p6⟩, hY⟩, hBB⟩, hYC, hFc⟩ := id hH
  have hq0 := hq
  obtain ⟨⟨a1, a2, a3, a4, a5, a6⟩, ⟨b1, b2, b3, b4, b5, b6⟩, ⟨ky, ky1, ky2, y103, yn⟩, -⟩ := hq
  obtain ⟨g, hg⟩ : ∃ g, zm S 14 h = g := ⟨_, rfl⟩
  obtain ⟨v, hv⟩ : ∃ v, qlb (zm S) k = v := ⟨_, rfl⟩
  obtain ⟨C, rC, Cg, Cy, C4, C2, C1, Co⟩ := s_giveBack e S k hu h b x y g w t P v (by omega) hH hk hq0 h86 h0 hg hhu hv
  obtain ⟨⟨kg, kg1, g103, gn, g1⟩, -⟩ := p5.2.1 h h0.1 h0.2
  rw [hg] at kg kg1 g103 gn g1
  have n65 := p4.1.2
  have n76 := p5.1.2
  have nky := qknn ky
  have nky1 := qknn ky1
  have nky2 := qknn ky2
  have nkg := qknn kg
  have d87 := (p4.2.1 k hk.1 hk.2).2.2.2.2.2.2.2.2
  have lo : ∀ z, z < 103 → C z = zm S z := fun z hz => Co z (by omega) (by omega) (by omega) (by omega)
  refine Or.inl ⟨v, qW S C, rC, qKs_w S _ (lo 1 (by decide)), ?_⟩
  obtain ⟨M, hM⟩ : ∃ M, qu C 102 0 (qid v) = M := ⟨_, rfl⟩
  have hq1 : qo (qW S C) (qid v) = qW S M := by rw [← hM]; rfl
  have Mo : ∀ z, z ≠ 102 → M z = C z := fun z hz => by rw [← hM, qu_o _ _ _ _ _ hz]
  have Ml : ∀ z, z < 102 → M z = zm S z := fun z hz => by rw [Mo z (by omega), lo z (by omega)]
  have MK : ∀ z, z ≠ 102 → z ≠ g → z ≠ y → z ≠ y + 1 → z ≠ y + 2 → M z = zm S z := fun z h1 h2 h3 h4 h5 => by rw [Mo z h1, Co z h2 h3 h4 h5]
  have H1 : qHB1 (qW S M) := q_give_1 hH kg g103 ky ky1 ky2 y103 MK
  obtain ⟨f1, f2, f3⟩ := (hY.2.1 b b1 b2).1
  have x103 := f3.2.1
  rw [a2] at f1 x103
  have nx := qknn f1
  have M37 : M 37 = zm S 37 := Ml 37 (by decide)
  obtain ⟨m2, r2, fl2, H2, h50⟩ := r_giveIs5 e (qW S M) k hu b P (by omega) H1 (by show 0 ≤ M 37 65 ∧ M 37 65 ≤ 20; rw [M37]; exact n65) (by show 0 ≤ k ∧ k < M 37 65; rw [M37]; exact hk) (by show 0 ≤ b ∧ b < M 37 16; rw [M37]; exact ⟨b1, b2⟩) (by show M 82 k = b; rw [Ml 82 (by decide), a1]) (by
    show M (M 8 b) 9 = P
    rw [Ml 8 (by decide), a2, MK x (by omega) (fun q => by rw [q] at nx; omega) (fun q => by rw [q] at nx; omega) (fun q => by rw [q] at nx; omega) (fun q => by rw [q] at nx; omega), a6]) ⟨by omega, b5⟩
  rw [if_pos hhu] at r2
  have r2 : zD (e + 1) 303 [vr 37, vi k, vi hu] (qW S M) = zF_303 e 38 [vr 37, vi k, vi hu, vu, vu] [vi 1] (qW S m2) := r2
  have fl2 : qFly M m2 := fl2
  have l2 : ∀ z, 81 ≤ z → z ≤ 94 → m2 z = zm S z := fun z z1 z2 => by
    rw [← Ml z (by omega)]
    exact funext fun i => fl2 z i (by unfold qfly; omega)
  have hP2 : qP m2 := H2.1.1.2.1
  have m23 : m2 37 3 = zm S 37 3 := by rw [fl2 37 3 (by unfold qfly; omega), M37]
  obtain ⟨m3, r3, t92, t86, t87, t85, t0, t37, to⟩ := r_giveDo e S m2 k hu h v (by omega) hK hP2 ⟨hk.1, by omega⟩ (by rw [l2 86 (by decide) (by decide), h86]) ⟨h0.1, by omega⟩ (by rw [m23]; exact p2.2) (by rw [l2 87 (by decide) (by decide)]; omega) (by rw [← hv]; unfold qlb; rw [l2 87 (by decide) (by decide), m23]) (by omega)
  -- the same without what lies
  obtain ⟨T, hT⟩ : ∃ T, qhu (qu (qu (qu M 92 h (z32 (M 92 h + v))) 86 k (-1)) 87 k (-1)) k hu = T := ⟨_, rfl⟩
  have T92 : ∀ i, T 92 i = if i = h then z32 (zm S 92 h + v) else zm S 92 i := fun i => by rw [← hT, qhu_o _ _ _ _ (by decide), qu_o _ _ _ _ _ (by decide), qu_o _ _ _ _ _ (by decide), qu_row, Ml 92 (by decide)]
  have T86 : ∀ i, T 86 i = if i = k then -1 else zm S 86 i := fun i => by rw [← hT, qhu_o _ _ _ _ (by decide), qu_o _ _ _ _ _ (by decide), qu_row, qu_o _ _ _ _ _ (by decide), Ml 86 (by decide)]
  have T87 : ∀ i, T 87 i = if i = k then -1 else zm S 87 i := fun i => by rw [← hT, qhu_o _ _ _ _ (by decide), qu_row, qu_o _ _ _ _ _ (by decide), qu_o _ _ _ _ _ (by decide), Ml 87 (by decide)]
  have T85 : ∀ i, T 85 i = qhu (zm S) k hu 85 i := fun i => by rw [← hT, qhu_r, qhu_r, qu_o _ _ _ _ _ (by decide), qu_o _ _ _ _ _ (by decide), qu_o _ _ _ _ _ (by decide), Ml 85 (by decide)]
  have To : ∀ z, z ≠ 92 → z ≠ 86 → z ≠ 87 → z ≠ 85 → T z = M z := fun z z1 z2 z3 z4 => by rw [← hT, qhu_o _ _ _ _ z4, qu_o _ _ _ _ _ z3, qu_o _ _ _ _ _ z2, qu_o _ _ _ _ _ z1]
  have Th : ∀ z, 103 ≤ z → T z = C z := fun z hz => by rw [To z (by omega) (by omega) (by omega) (by omega), Mo z (by omega)]
  have HT : qHC (qW S T) := q_give_T (v := v) hH hk hq0 h86 h0 hg hhu T92 T86 T87 T85 (fun j => by rw [Th g g103, Cg]) (fun j hj => by rw [Th y y103, Cy j hj]) (by rw [Th y y103, C4]) (fun p p1 p2 => by rw [Th _ (by omega), C2 p p1 p2]) (fun i hi => by rw [Th _ (by omega), C1 i hi]) (fun z z1 z2 z3 z4 z5 z6 z7 z8 z9 => by rw [To z z5 z6 z7 z8, MK z z9 z1 z2 z3 z4])
  have f5 : qF0 T m3 := q_give_5 l2 fl2 t92 t86 t87 t85 t37 to T92 T86 T87 T85 To
  have H5 : qHB1 (qW S m3) := qHB1_p H2 fun z j h1 h2 => by
    by_cases q1 : z = 37
    · subst q1
      exact t37 j fun q => h2 ⟨rfl, Or.inl q⟩
    · exact congrFun (to z (fun q => h1 ⟨by rw [q]; decide, by rw [q]; decide⟩) (fun q => h1 ⟨by rw [q]; decide, by rw [q]; decide⟩) (fun q => h1 ⟨by rw [q]; decide, by rw [q]; decide⟩) (fun q => h1 ⟨by rw [q]; decide, by rw [q]; decide⟩) q1) j
  have F5 : qFzz (qW S T) m3 := qF0_z (S := qW S T) f5
  have H6 : qHC (qW S m3) := qHC_z (S := qW S T) HT F5 ⟨qH0_x (S := qW S T) HT.1.1 F5.1, H5.2⟩
  refine ⟨qW S m3, ?_, qKs_w S _ ?_, t0, ?_, q6_w H6 ?_ ?_ (q50_e (q50_w M37 h50) (t37 50 (by decide))) (hI_g (k := k) (fun j hj => by rw [f5 37 j (by unfold qfly; omega), To 37 (by decide) (by decide) (by decide) (by decide), M37]) (fun z hz => (funext fun i => f5 z i (by unfold qfly; omega) : m3 z = T z).trans (by rw [To z (by omega) (by omega) (by omega) (by omega), Ml z (by omega)])) fun i => (f5 86 i (by unfold qfly; omega)).trans (T86 i))⟩
  · rw [hq1, r2, r3]
  · rw [to 1 (by decide) (by decide) (by decide) (by decide) (by decide), show m2 1 = M 1 from funext fun i => fl2 1 i (by unfold qfly; omega), Ml 1 (by decide)]
  · show m3 102 0 = _
    rw [to 102 (by decide) (by decide) (by decide) (by decide) (by decide), show m2 102 0 = M 102 0 from fl2 102 0 (by unfold qfly; omega), ← hM, qu_s]
  · rw [t37 16 (by decide), show m2 37 16 = M 37 16 from fl2 37 16 (by unfold qfly; omega), M37]
  · rw [t37 65 (by decide), show m2 37 65 = M 37 65 from fl2 37 65 (by unfold qfly; omega), M37]
theorem j_giveBack5 (d : Nat) (S : zS) (k hu : Int) (h : 15 ≤ d) (hH : qHC S) :
    qUn vi qid (qG6 S) S (zD d 148 [vr 3, vi k, vi hu] S) (zD d 303 [vr 37, vi k, vi hu]) qpsE := by
  obtain ⟨⟨⟨⟨hK, hP, hL, hn⟩, -, ⟨p1, p2, p3, p4, p5, p6⟩, hY⟩, hBB⟩, hYC, hFc⟩ := id hH
  by_cases c1 : 0 ≤ k ∧ k < zm S 37 65
  · obtain ⟨e, rfl, he⟩ := qd h
    obtain ⟨b, x, y, w, t, P, q⟩ := hYC.2.1 k c1.1 c1.2
    have q0 := q
    obtain ⟨⟨a1, a2, a3, a4, a5, a6⟩, ⟨b1, b2, b3, b4, b5, b6⟩, ⟨ky, ky1, ky2, y103, yn⟩, ⟨y2, y3, y4⟩, -⟩ := q
    have co := s_copyOf_y e S k (by omega) hK hP p4.1 c1
    obtain ⟨-, -, -, -, -, y6, -, -, dd⟩ := p4.2.1 k c1.1 c1.2
    rw [a3] at co y6
    have n65 := p4.1.2
    have k20 : k < 20 := by omega
    obtain ⟨m2, r2, f2, H2, h50⟩ := r_giveIs5 e (zbump S) k hu b P (by omega) (qHB1_0 hH.1) n65 c1 ⟨b1, b2⟩ a1 (by show zm S (zm S 8 b) 9 = P; rw [a2, a6]) ⟨by omega, b5⟩
    have r2 : zD (e + 1) 303 [vr 37, vi k, vi hu] (zbump S) = zF_303 e 38 [vr 37, vi k, vi hu, vu, vu] [vi (if hu = -1 ∨ (0 ≤ hu ∧ hu < P) then 1 else 0)] (zbump (qW S m2)) := r2
    have hKb2 : qK (zbump (qW S m2)) := hK
    by_cases c2 : hu = -1 ∨ (0 ≤ hu ∧ hu < P)
    · by_cases c3 : zm S 86 k = -1
      · rw [if_pos c2] at r2
        have hd : zD e 182 [vr 37, vi 2] (zbump (qW S m2)) = some (.inl (some (vi 0)), zbump (qW S (qu m2 37 0 2))) := r_holdn e (zbump S) m2 2 (by omega) hK (by decide)
        refine qUn_x6 hH 1 ?_ (by decide) ⟨qu m2 37 0 2, ?_, qF0_t (qF0_l f2) (qF0_u m2 2), qu_s _ _ _ _, qHB_0 (S := S) H2 2, q50_e (S := S) h50 (qu_i _ _ _ _ _ (by decide))⟩
        · have nlt : ¬ hu < -1 := by omega
          have huP : hu < P := by omega
          have y6 : zm S y 6 = -1 := y6.trans c3
          simp (config := { maxSteps := 2000000 }) (disch := first | omega | (simp only [K_3 hK, ky, y3, ky2, qb_in, qkW, qmW, qnW, true_and, and_true, or_self, true_or, or_true, and_self]; done) | (simp only [K_3 hK, ky, y3, ky2, qb_in, qkW, qmW, qnW, true_and, and_true, or_self, true_or, or_true, and_self]; omega)) only [zD_148, b148_0, b148_5, b148_11, b148_20, b148_31, b148_39, b148_50, b148_58, b148_68, b148_88, b148_97, b148_102, b148_107, qcall_l, qcall_r, qretn_l, qJ_s, qJ_n, qV0, qEx, ↓qif0, ↓zchk_pos, ↓reduceIte, qput, qWW, qmW, qkW, qnW, K_3 hK, co, if_neg nlt, ky, y3, ky2, if_pos huP, y6, Int.reduceEq]
        · have p70 : zm (zbump (qW S m2)) 37 70 = 86 := P_37_70 H2.1.1.2.1
          have q86 : zm (zbump (qW S m2)) 86 k = -1 := by
            show m2 86 k = -1
            rw [f2 86 k (by unfold qfly; omega)]
            exact c3
          rw [r2, b303_38]
          simp (config := { maxSteps := 2000000 }) (disch := first | omega | (simp only [K_37 hKb2, K_86 hKb2, p70, c1.1, k20, qb_in, qkW, qmW, qnW, true_and, and_true, or_self, true_or, or_true, and_self]; done) | (simp only [K_37 hKb2, K_86 hKb2, p70, c1.1, k20, qb_in, qkW, qmW, qnW, true_and, and_true, or_self, true_or, or_true, and_self]; omega)) only [b303_0, b303_5, b303_8, b303_13, b303_25, b303_30, b303_33, b303_37, b303_38, b303_44, b303_48, b303_58, b303_62, b303_63, b303_66, b303_69, b303_71, b303_76, b303_92, b303_106, b303_113, b303_122, b303_124, qcall_l, qcall_r, qretn_l, qJ_s, qJ_n, qV0, qEx, ↓qif0, ↓zchk_pos, ↓reduceIte, qput, qWW, qmW, qkW, qnW, K_37 hKb2, K_86 hKb2, p70, q86, hd, Int.reduceEq]
      · obtain ⟨d1, -⟩ := dd.resolve_left fun q => c3 q.1
        exact j_give_y5 e S k hu _ b x y w t P he hH c1 q0 rfl d1 c2
    · rw [if_neg c2] at r2
      have hd : zD e 182 [vr 37, vi 1] (zbump (qW S m2)) = some (.inl (some (vi 0)), zbump (qW S (qu m2 37 0 1))) := r_holdn e (zbump S) m2 1 (by omega) hK (by decide)
      refine qUn_x6 hH 2 ?_ (by decide) ⟨qu m2 37 0 1, ?_, qF0_t (qF0_l f2) (qF0_u m2 1), qu_s _ _ _ _, qHB_0 (S := S) H2 1, q50_e (S := S) h50 (qu_i _ _ _ _ _ (by decide))⟩
      · by_cases c4 : hu < -1
        · simp (config := { maxSteps := 2000000 }) (disch := first | omega | (simp only [K_3 hK, qb_in, qkW, qmW, qnW, true_and, and_true, or_self, true_or, or_true, and_self]; done) | (simp only [K_3 hK, qb_in, qkW, qmW, qnW, true_and, and_true, or_self, true_or, or_true, and_self]; omega)) only [zD_148, b148_0, b148_5, b148_11, b148_20, b148_31, b148_39, b148_50, b148_58, b148_68, b148_88, b148_97, b148_102, b148_107, qcall_l, qcall_r, qretn_l, qJ_s, qJ_n, qV0, qEx, ↓qif0, ↓zchk_pos, ↓reduceIte, qput, qWW, qmW, qkW, qnW, K_3 hK, co, if_pos c4]
        · simp (config := { maxSteps := 2000000 }) (disch := first | omega | (simp only [K_3 hK, ky, y3, ky2, qb_in, qkW, qmW, qnW, true_and, and_true, or_self, true_or, or_true, and_self]; done) | (simp only [K_3 hK, ky, y3, ky2, qb_in, qkW, qmW, qnW, true_and, and_true, or_self, true_or, or_true, and_self]; omega)) only [zD_148, b148_0, b148_5, b148_11, b148_20, b148_31, b148_39, b148_50, b148_58, b148_68, b148_88, b148_97, b148_102, b148_107, qcall_l, qcall_r, qretn_l, qJ_s, qJ_n, qV0, qEx, ↓qif0, ↓zchk_pos, ↓reduceIte, qput, qWW, qmW, qkW, qnW, K_3 hK, co, if_neg c4, ky, y3, ky2, if_neg (show ¬ hu < P by omega)]
      · rw [r2, b303_38]
        simp (config := { maxSteps := 2000000 }) (disch := first | omega | (simp only [K_37 hKb2, qb_in, qkW, qmW, qnW, true_and, and_true, or_self, true_or, or_true, and_self]; done) | (simp only [K_37 hKb2, qb_in, qkW, qmW, qnW, true_and, and_true, or_self, true_or, or_true, and_self]; omega)) only [b303_0, b303_5, b303_8, b303_13, b303_25, b303_30, b303_33, b303_37, b303_38, b303_44, b303_48, b303_58, b303_62, b303_63, b303_66, b303_69, b303_71, b303_76, b303_92, b303_106, b303_113, b303_122, b303_124, qcall_l, qcall_r, qretn_l, qJ_s, qJ_n, qV0, qEx, ↓qif0, ↓zchk_pos, ↓reduceIte, qput, qWW, qmW, qkW, qnW, K_37 hKb2, hd, Int.reduceEq]
  · exact qUn_n6 hH (q_giveBack_n d S k hu (by omega) hK p4.1 c1)
theorem hI_p {S : zS} {m1 m2 : Int → Int → Int} {p : qQ} {N : Nat} (hp : (zm S 86, zm S 87, zm S 88, zm S 93, zm S 94, zm S 37 80, zm S 37 3) = p) (hN : p.2.2.2.2.2.2 + N ≤ 1000) (hR : qPR m1 m2 (qds (zm S) p N).1) (h37 : ∀ j, j = 4 ∨ j = 65 → m2 37 j = zm S 37 j) (hr : ∀ z, (39 ≤ z ∧ z ≤ 45) ∨ z = 84 → m2 z = zm S z) (h : hI (zm S)) : hI m2 := by
  obtain ⟨⟨e86, -, e88⟩, -, ⟨-, e3⟩, -⟩ := hR
  have h0 : hSp (zm S) p := by
    rw [← hp]
    exact h.2.1
  obtain ⟨g, -⟩ := hSp_s h0 N hN
  refine ⟨hFr_e (h37 4 (by omega)) (fun z a b => hr z (by omega)) h.1, fun k k0 k1 => ?_, hMg_e (h37 65 (by omega)) (hr 84 (by omega)) h.2.2⟩
  rw [h37 65 (by omega)] at k1
  rw [e86, e88, e3]
  exact g k k0 k1
theorem j_pass5 (d : Nat) (S : zS) (n : Int) (h : 8 ≤ d) (hH : qHC S) :
    qUn vi qid (qG6 S) S (zD d 146 [vr 3, vi n] S) (zD d 300 [vr 37, vi n]) qpsA := by
  obtain ⟨e, rfl, he⟩ := qd h
  obtain ⟨⟨⟨⟨hK, hP, hL, hn⟩, -, ⟨p1, p2, p3, p4, p5, p6⟩, hY⟩, -⟩, -⟩ := id hH
  have hKb : qK (zbump S) := hK
  by_cases c1 : 1 ≤ n ∧ n ≤ 100
  · have zr : -2147483648 ≤ zm S 37 3 + n ∧ zm S 37 3 + n < 2147483648 := by have := p2.2; omega
    by_cases c2 : zm S 37 3 + n ≤ 1000
    · obtain ⟨N, rfl⟩ : ∃ N : Nat, n = (N : Int) := ⟨n.toNat, by omega⟩
      obtain ⟨hp0, hq0⟩ := qPC_0 hH
      obtain ⟨p, hp⟩ : ∃ p : qQ, (zm S 86, zm S 87, zm S 88, zm S 93, zm S 94, zm S 37 80, zm S 37 3) = p := ⟨_, rfl⟩
      have pd : p.2.2.2.2.2.2 = zm S 37 3 := by rw [← hp]
      have pr0 : ∀ m1 : Int → Int → Int, (∀ z, z = 86 ∨ z = 87 ∨ z = 88 ∨ z = 93 ∨ z = 94 → m1 z = zm S z) → m1 37 80 = zm S 37 80 → m1 37 3 = zm S 37 3 → qPR m1 m1 p := fun m1 g1 g2 g3 => by
        rw [← hp]
        exact ⟨⟨g1 86 (by omega), g1 87 (by omega), g1 88 (by omega)⟩, ⟨g1 93 (by omega), g1 94 (by omega)⟩, ⟨g2, g3⟩, fun _ _ _ => rfl⟩
      rw [hp] at hp0 hq0
      obtain ⟨mC, rC, qC⟩ := s_passOut e S p N (by omega) hH hq0 (by omega) (by rw [pd]; omega) N 0 (zm S) (by omega) hp0
      have rC : zF_146 e 49 [vr 3, vi (N : Int), vi 0, vi 0] [] S = some (.inl (some (vi (qds (zm S) p N).2)), qW S mC) := rC
      obtain ⟨kq, -, -, -⟩ := qds_k hq0 p4.1.2 N (by rw [pd]; omega)
      have kq2 : p.2.2.2.2.2.2 + (N : Int) ≤ 1000 := by rw [pd]; exact c2
      obtain ⟨v, hv⟩ : ∃ v, (qds (zm S) p N).2 = v := ⟨_, rfl⟩
      rw [hv] at rC
      have cf := qC.2.2.2.2
      have c1m : mC 1 = zm S 1 := funext fun j => cf 1 j (qPE_lo (by decide) (by omega) (by omega) (by decide))
      have c37 : mC 37 = zm S 37 := funext fun j => cf 37 j (qPE_lo (by decide) (by omega) (by omega) (by decide))
      have lo : ∀ z, z < 103 → z ≠ 3 → z ≠ 15 → z ≠ 16 → z ≠ 17 → mC z = zm S z := fun z g1 g2 g3 g4 g5 => funext fun j => cf z j (qPE_lo g1 (by omega) (by omega) ⟨g4, g5⟩)
      have hPC := qPC_P hH qC
      refine Or.inl ⟨v, qW S mC, ?_, qKs_w S _ c1m, ?_⟩
      · simp (config := { maxSteps := 2000000 }) (disch := first | omega | (simp only [K_3 hK, qb_in, qkW, qmW, qnW, true_and, and_true, or_self, true_or, or_true, and_self]; done) | (simp only [K_3 hK, qb_in, qkW, qmW, qnW, true_and, and_true, or_self, true_or, or_true, and_self]; omega)) only [zD_146, b146_0, b146_5, b146_11, b146_22, b146_34, b146_45, b146_54, b146_69, b146_77, qcall_l, qcall_r, qretn_l, qJ_s, qJ_n, qV0, qEx, ↓qif0, ↓zchk_pos, ↓reduceIte, qput, qWW, qmW, qkW, qnW, K_3 hK, if_neg (show ¬ (N : Int) < 1 by omega), if_neg (show ¬ (100 : Int) < (N : Int) by omega), p2.1, q32 zr, if_neg (show ¬ (1000 : Int) < zm S 37 3 + N by omega), rC]
      · obtain ⟨M, hM⟩ : ∃ M, qu mC 102 0 (qid v) = M := ⟨_, rfl⟩
        have hq : qo (qW S mC) (qid v) = qW S M := by rw [← hM]; rfl
        rw [hq]
        have m37 : M 37 = zm S 37 := by rw [← hM, qu_o _ _ _ _ _ (by decide), c37]
        have M3 : M 37 3 = zm S 37 3 := by rw [m37]
        have i1 := r_in e (N : Int) 1 100 (qW S M) (by omega)
        rw [qb_p c1] at i1
        have hd := r_hold0 e S M (by omega) hK
        obtain ⟨m1, hm1⟩ : ∃ m1, qu M 37 0 0 = m1 := ⟨_, rfl⟩
        rw [hm1] at hd
        have k1 : ∀ z j, z ≠ 102 → ¬ (z = 37 ∧ j = 0) → m1 z j = mC z j := fun z j g1 g2 => by
          rw [← hm1]
          by_cases c : z = 37
          · subst c
            rw [qu_i _ _ _ _ _ fun q => g2 ⟨rfl, q⟩, ← hM, qu_o _ _ _ _ _ g1]
          · rw [qu_o _ _ _ _ _ c, ← hM, qu_o _ _ _ _ _ g1]
        have hP1 : qP m1 := hPC.same fun q hq => by
          have n := qPt_n q hq
          exact k1 q.1 q.2.1 (by omega) (by omega)
        have k1s : ∀ z, z < 102 → z ≠ 3 → z ≠ 15 → z ≠ 16 → z ≠ 17 → z ≠ 37 → m1 z = zm S z := fun z g1 g2 g3 g4 g5 g6 => by
          rw [← lo z (by omega) g2 g3 g4 g5]
          exact funext fun j => k1 z j (by omega) (by omega)
        have k37 : ∀ j, j ≠ 0 → m1 37 j = zm S 37 j := fun j hj => by rw [k1 37 j (by decide) (by omega), c37]
        obtain ⟨m2, r2, q2⟩ := r_passOut e S m1 p N (by omega) hH hP1 ⟨fun z hz => k1s z (by omega) (by omega) (by omega) (by omega) (by omega) (by omega), fun j j0 _ _ => k37 j j0⟩ hq0 (by omega) (by rw [pd]; omega) N 0 m1 vu (by omega) (pr0 m1 (fun z hz => k1s z (by omega) (by omega) (by omega) (by omega) (by omega) (by omega)) (k37 80 (by decide)) (k37 3 (by decide)))
        have r2 : zF_300 e 44 [vr 37, vi (N : Int), vi 0, vi 0, vu] [] (qW S m1) = some (.inl (some (vi (qds (zm S) p N).2)), qW S m2) := r2
        rw [hv] at r2
        have fr := q2.2.2.2
        refine ⟨qW S m2, ?_, qKs_w S _ ?_, ?_, ?_, q6_w (q_pass_T hH qC kq k1 q2) ?_ ?_ (Or.inl (by show m2 37 50 = zm S 37 50; rw [fr 37 50 (by unfold qRE; omega), k37 50 (by decide)])) (hI_p hp kq2 q2 (fun j hj => by rw [fr 37 j (by unfold qRE; omega), k37 j (by omega)]) fun z hz => (funext fun j => fr z j (by unfold qRE; omega) : m2 z = m1 z).trans (k1s z (by omega) (by omega) (by omega) (by omega) (by omega) (by omega)))⟩
        · simp (config := { maxSteps := 2000000 }) (disch := first | omega | (simp only [K_37 hK, M3, qb_in, qkW, qmW, qnW, true_and, and_true, or_self, true_or, or_true, and_self]; done) | (simp only [K_37 hK, M3, qb_in, qkW, qmW, qnW, true_and, and_true, or_self, true_or, or_true, and_self]; omega)) only [zD_300, b300_0, b300_8, b300_11, b300_15, b300_27, b300_31, b300_32, b300_35, b300_38, b300_40, b300_49, b300_71, b300_78, b300_86, b300_92, qcall_l, qcall_r, qretn_l, qJ_s, qJ_n, qV0, qEx, ↓qif0, ↓zchk_pos, ↓reduceIte, qput, qWW, qmW, qkW, qnW, K_37 hK, i1, M3, q32 zr, if_neg (show ¬ (1000 : Int) < zm S 37 3 + N by omega), hd, r2, Int.reduceEq]
        · rw [← k1s 1 (by decide) (by decide) (by decide) (by decide) (by decide) (by decide)]
          exact funext fun j => fr 1 j (by unfold qRE; omega)
        · show m2 37 0 = 0
          rw [fr 37 0 (by unfold qRE; omega), ← hm1, qu_s]
        · show m2 102 0 = _
          rw [fr 102 0 (by unfold qRE; omega), ← hm1, qu_o _ _ _ _ _ (by decide), ← hM, qu_s]
        · rw [fr 37 16 (by unfold qRE; omega), k37 16 (by decide)]
        · rw [fr 37 65 (by unfold qRE; omega), k37 65 (by decide)]
    · refine qUn_n6 hH ⟨1, ?_, ?_, by decide⟩
      · simp (config := { maxSteps := 2000000 }) (disch := first | omega | (simp only [K_3 hK, qb_in, qkW, qmW, qnW, true_and, and_true, or_self, true_or, or_true, and_self]; done) | (simp only [K_3 hK, qb_in, qkW, qmW, qnW, true_and, and_true, or_self, true_or, or_true, and_self]; omega)) only [zD_146, b146_0, b146_5, b146_11, b146_22, b146_34, b146_45, b146_54, b146_69, b146_77, qcall_l, qcall_r, qretn_l, qJ_s, qJ_n, qV0, qEx, ↓qif0, ↓zchk_pos, ↓reduceIte, qput, qWW, qmW, qkW, qnW, K_3 hK, if_neg (show ¬ n < 1 by omega), if_neg (show ¬ 100 < n by omega), p2.1, q32 zr, if_pos (show 1000 < zm S 37 3 + n by omega)]
      · have i1 := r_in e n 1 100 (zbump S) (by omega)
        rw [qb_p c1] at i1
        have hd := r_refuse e S 2 (by omega) hK (by decide)
        have b3 : zm (zbump S) 37 3 = zm S 37 3 := rfl
        simp (config := { maxSteps := 2000000 }) (disch := first | omega | (simp only [K_37 hKb, qb_in, qkW, qmW, qnW, true_and, and_true, or_self, true_or, or_true, and_self]; done) | (simp only [K_37 hKb, qb_in, qkW, qmW, qnW, true_and, and_true, or_self, true_or, or_true, and_self]; omega)) only [zD_300, b300_0, b300_8, b300_11, b300_15, b300_27, b300_31, b300_32, b300_35, b300_38, b300_40, b300_49, b300_71, b300_78, b300_86, b300_92, qcall_l, qcall_r, qretn_l, qJ_s, qJ_n, qV0, qEx, ↓qif0, ↓zchk_pos, ↓reduceIte, qput, qWW, qmW, qkW, qnW, K_37 hKb, i1, b3, q32 zr, if_pos (show 1000 < zm S 37 3 + n by omega), hd, Int.reduceEq]
        rfl
  · refine qUn_n6 hH ⟨0, ?_, ?_, by decide⟩
    · by_cases c4 : n < 1
      · simp (config := { maxSteps := 2000000 }) (disch := first | omega | (simp only [qb_in, qkW, qmW, qnW, true_and, and_true, or_self, true_or, or_true, and_self]; done) | (simp only [qb_in, qkW, qmW, qnW, true_and, and_true, or_self, true_or, or_true, and_self]; omega)) only [zD_146, b146_0, b146_5, b146_11, b146_22, b146_34, b146_45, b146_54, b146_69, b146_77, qcall_l, qcall_r, qretn_l, qJ_s, qJ_n, qV0, qEx, ↓qif0, ↓zchk_pos, ↓reduceIte, qput, qWW, qmW, qkW, qnW, if_pos c4]
      · simp (config := { maxSteps := 2000000 }) (disch := first | omega | (simp only [qb_in, qkW, qmW, qnW, true_and, and_true, or_self, true_or, or_true, and_self]; done) | (simp only [qb_in, qkW, qmW, qnW, true_and, and_true, or_self, true_or, or_true, and_self]; omega)) only [zD_146, b146_0, b146_5, b146_11, b146_22, b146_34, b146_45, b146_54, b146_69, b146_77, qcall_l, qcall_r, qretn_l, qJ_s, qJ_n, qV0, qEx, ↓qif0, ↓zchk_pos, ↓reduceIte, qput, qWW, qmW, qkW, qnW, if_neg c4, if_pos (show 100 < n by omega)]
    · have i1 := r_in e n 1 100 (zbump S) (by omega)
      rw [qb_n c1] at i1
      have hd := r_refuse e S 1 (by omega) hK (by decide)
      simp (config := { maxSteps := 2000000 }) (disch := first | omega | (simp only [K_37 hKb, qb_in, qkW, qmW, qnW, true_and, and_true, or_self, true_or, or_true, and_self]; done) | (simp only [K_37 hKb, qb_in, qkW, qmW, qnW, true_and, and_true, or_self, true_or, or_true, and_self]; omega)) only [zD_300, b300_0, b300_8, b300_11, b300_15, b300_27, b300_31, b300_32, b300_35, b300_38, b300_40, b300_49, b300_71, b300_78, b300_86, b300_92, qcall_l, qcall_r, qretn_l, qJ_s, qJ_n, qV0, qEx, ↓qif0, ↓zchk_pos, ↓reduceIte, qput, qWW, qmW, qkW, qnW, K_37 hKb, i1, hd, Int.reduceEq]
      rfl
theorem j_contrH (d : Nat) (S : zS) (c g p f s : Int) (h : 8 ≤ d) (hK : qK S) (hP : qP (zm S)) (hT : qRT S) (hC : qRC S) (hB : qBh S) (hn : 103 ≤ (zn S : Int)) :
    qAskN (fun S2 => (((∀ c' N T, c' ≠ c → qTok T N → qRc (zm S) c' N T → qRc (zm S2) c' N T) ∧ qhwf (zm S) c (zm S 37 16).toNat = 0) ∧ qRC S2 ∧ qRT S2 ∧ qGw S S2 2 2 12 fun x j => x = 102 ∨ x = 4 ∧ j = 1 ∨ 39 ≤ x ∧ x ≤ 45 ∨ x = 37 ∧ (j = 0 ∨ j = 2) ∨ 103 ≤ x ∧ (zk S x = (22, 0) ∨ zk S x = (12, 24))) ∧ (hI (zm S) → hI (zm S2))) (fun S2 => ∃ m2, S2 = zbump (qW S m2) ∧ qFq S m2) S (zD d 119 [vr 3, vi c, vi g, vi p, vi f, vi s] S) (zD d 211 [vr 37, vi c, vi g, vi p, vi f, vi s]) qps3 := by
  by_cases hb : (0 ≤ c ∧ c < zm S 37 4) ∧ (qcok0 (zm S 37 2) g p f s ∧ qslt (zm S 38) (zm S 37 2)) ∧ ¬ zm S 39 c = 24 ∧ qhwf (zm S) c (zm S 37 16).toNat = 0
  · obtain ⟨h1, h2, h3, h4⟩ := hb
    obtain ⟨e, rfl, he⟩ := qd h
    have cy := fun i i1 i2 => qRC_1 hC (c := i) i1 i2
    have cN := fun i i1 i2 => (cy i i1 i2).2.1.2.2.2.1
    have hK2 := cN c h1.1 h1.2
    obtain ⟨S1, r1, n1, z1, w1, k1, v, m', e1, lo⟩ := s_contrGood e S c g p f s (zm S 37 2) (zm S 39 c) (zn S) (zm S 6 c) (zm S 38) (by omega) hK hP hT hC hB rfl hn rfl rfl h1 h2 rfl (by omega) h4 rfl
    generalize hN : (zn S : Int) = N at n1 k1 v e1 lo
    generalize hKK : zm S 39 c = K at *
    generalize hn2 : zm S 37 2 = n at *
    generalize ht2 : zm S 38 = t at *
    generalize ha : zm S 6 c = a at *
    have ca : 103 ≤ a ∧ a + 5 ≤ N := by
      obtain ⟨-, -, -, -, -, -, -, -, -, q1, q2⟩ := (cy c h1.1 h1.2).1
      rw [ha] at q1 q2
      omega
    refine Or.inl ⟨K, S1, r1, ⟨by rw [e1, qu_o _ _ _ _ _ (by omega), qu_o _ _ _ _ _ (by omega), qu_o _ _ _ _ _ (by omega), lo 1 (by omega)], fun x hx => by rw [k1, if_neg (by omega), if_neg (by omega)]⟩, fun o => ?_⟩
    obtain ⟨S9, h9, n9, c9, w9, k9, m9, o9⟩ := qo_ex S1 o
    rw [h9]
    have n1 : (zn S9 : Int) = N + 2 := by rw [n9]; exact n1
    have z1 : zc S9 = zc S + 2 := by rw [c9]; exact z1
    have w1 : zw S9 = zw S + 12 := by rw [w9]; exact w1
    have e1 : ∀ x, x ≠ 102 → zm S9 x = qu (qu (qu m' 4 1 0) (a + 1) K N) a 1 (K + 1) x := fun x hx => by rw [m9 x hx, e1]
    have l1 : ∀ x, x < N ∧ x ≠ 102 → x ≠ 4 → x ≠ a → x ≠ a + 1 → zm S9 x = zm S x := fun x x1 x2 x3 x4 => by rw [e1 x x1.2, qu_o _ _ _ _ _ x3, qu_o _ _ _ _ _ x4, qu_o _ _ _ _ _ x2, lo x x1.1]
    have lk : ∀ x, x < N → zk S9 x = zk S x := fun x hx => by rw [k9, k1, if_neg (by omega), if_neg (by omega)]
    have hK1 : qK S9 := qK_g hK hn (by rw [hN]; exact lk)
    have s37 : zm S9 37 = zm S 37 := l1 37 (by omega) (by decide) (by omega) (by omega)
    have s38 : zm S9 38 = t := by rw [l1 38 (by omega) (by decide) (by omega) (by omega), ht2]
    have s39 : zm S9 39 = zm S 39 := l1 39 (by omega) (by decide) (by omega) (by omega)
    have s41 : zm S9 4 1 = 0 := by rw [e1 4 (by decide), qu_o _ _ _ _ _ (by omega), qu_o _ _ _ _ _ (by omega), qu_s]
    have s4 : ∀ j, j ≠ 1 → zm S9 4 j = zm S 4 j := fun j hj => by rw [e1 4 (by decide), qu_o _ _ _ _ _ (by omega), qu_o _ _ _ _ _ (by omega), qu_i _ _ _ _ _ hj, lo 4 (by omega)]
    have hP1 : qP (zm S9) := hP.same fun q hq => by
      have n4 : (q.1 ≤ 102 ∧ q.1 ≠ 102) ∧ ¬ (q.1 = 4 ∧ q.2.1 = 1) := by
        revert q
        decide
      by_cases c4 : q.1 = 4
      · rw [c4]
        exact s4 _ fun z => n4.2 ⟨c4, z⟩
      · rw [l1 q.1 (by omega) c4 (by omega) (by omega)]
    have hw1 : qhwf (zm S9) c (zm S9 37 16).toNat = 0 := by
      rw [s37, qhwf_e (l1 54 (by omega) (by decide) (by omega) (by omega)) (l1 49 (by omega) (by decide) (by omega) (by omega))]
      exact h4
    have t2 := hT.2.1
    rw [hn2] at t2
    obtain ⟨mr, r2, f1, f2⟩ := r_contrGood e S9 c g p f s n K t (by omega) hK1 hP1 (by omega) (by rw [s37]; exact hC.2.1) (by rw [s37]; exact hB.2.1) (by rw [s37]; exact hn2) s38 (by
      have := hT.2.2.2
      rw [ht2, hn2] at this
      exact this) (by rw [s37]; exact h1) h2 (by rw [s39]; exact hKK) (by omega) hw1
    generalize hA : 24 * c + K = A at *
    have hM := q_contrM S S9 mr c g p f s n K A t h2.1.1 hA s37 (fun x x1 x2 => l1 x (by omega) (by omega) (by omega) (by omega)) f1 f2
    generalize hM2 : qu (qu (qu (qu (qu (qu (qu mr 37 2 0) 41 A n) 44 A g) 45 A p) 42 A f) 43 A s) 39 c (K + 1) = M at r2 hM
    refine ⟨qW S9 M, r2, hM.2.1.2.1, by show M 102 0 = o; rw [hM.1 102 (by decide) (by decide), o9], ?_⟩
    obtain ⟨v0, v1, v2, v3, v4, v5, v6⟩ := v
    have x0 : zm S9 N = zm S1 N := m9 N (by omega)
    refine ⟨⟨⟨fun c' N T hc tk hr => qMc_c hM hA (by omega) hc hr tk, h4⟩, ?_⟩, hI_c hC hM hA (by exact h1) hKK (by omega) h2.1.2.2.2.1 h2.1.2.2.2.2 (l1 84 (by omega) (by decide) (by omega) (by omega)) (l1 86 (by omega) (by decide) (by omega) (by omega)) (l1 88 (by omega) (by decide) (by omega) (by omega))⟩
    exact q_contrK S S9 M c g p f s n K N a A t hC hT (by omega) hN n1 z1 w1 (fun x => by rw [k9, k1]) (by exact h1) h2 hKK (by omega) ha hA ⟨by rw [x0]; exact v0, by rw [x0]; exact v1, by rw [x0]; exact v2, by rw [x0]; exact v3, by rw [x0]; exact v4, by rw [x0]; exact v5, fun j j1 j2 => by rw [m9 (N + 1) (by omega)]; exact v6 j j1 j2⟩ l1 s41 s4
      (fun j hj => by rw [e1 a (by omega), qu_i _ _ _ _ _ hj, qu_o _ _ _ _ _ (by omega), qu_o _ _ _ _ _ (by omega), lo a (by omega)]) (by rw [e1 a (by omega), qu_s])
      (fun j hj => by rw [e1 (a + 1) (by omega), qu_o _ _ _ _ _ (by omega), qu_i _ _ _ _ _ hj, qu_o _ _ _ _ _ (by omega), lo (a + 1) (by omega)]) (by rw [e1 (a + 1) (by omega), qu_o _ _ _ _ _ (by omega), qu_s]) hM
  · obtain ⟨x, hx0, r1, r2⟩ := q_contrBad d S c g p f s (by omega) hK hP hT hC hB hb
    refine Or.inr ⟨x, 0, zbump S, zbump (qW S (qu (zm S) 37 0 (qps3 x))), r1, ⟨rfl, fun _ _ => rfl⟩, r2, by show qu (zm S) 37 0 (qps3 x) 37 0 = _; exact qu_s _ _ _ _, hx0, _, rfl, qFq_37x (qFq_r S) (qfr_j (A := []) (J := [0]) _ _ _ (by decide)) (by decide) (by decide)⟩
theorem hI_w {S S2 : zS} {n c w : Nat} {E : Int → Int → Prop} (hn : 103 ≤ (zn S : Int)) (g : qGw S S2 n c w E) (h37 : ∀ j, j = 3 ∨ j = 4 ∨ j = 65 → ¬ E 37 j) (hr : ∀ z j, (39 ≤ z ∧ z ≤ 45) ∨ z = 84 ∨ z = 86 ∨ z = 88 → ¬ E z j) : hI (zm S) → hI (zm S2) := hI_e (fun j hj => g.2.2.2.2 37 j (by omega) (h37 j hj)) fun z hz => funext fun j => g.2.2.2.2 z j (by omega) (hr z j hz)
theorem hI_dx {S S2 : zS} (hn : 103 ≤ (zn S : Int)) (hC : qRC S) (q : ∃ T m2, S2 = zbump (qW T m2) ∧ (T = S ∨ qGw S T 3 3 18 fun _ _ => False) ∧ qFq T m2) : hI (zm S) → hI (zm S2) := by
  obtain ⟨T, m2, rfl, hT, f⟩ := q
  have fr : ∀ x j, x < 103 → ¬ qscf x j → m2 x j = zm S x j := fun x j hx hs => by
    rcases hT with rfl | g
    · exact f x j (qns hC (by omega) hs)
    · have e4 : zm T 37 4 = zm S 37 4 := g.2.2.2.2 37 4 (by omega) id
      have e6 : ∀ c, zm T 6 c = zm S 6 c := fun c => g.2.2.2.2 6 c (by omega) id
      rw [f x j (fun q => by
        rcases q with q | ⟨c, q0, q1, q2⟩
        · exact hs q
        · rw [e4] at q1
          rw [e6] at q2
          exact qns hC (by omega) hs (Or.inr ⟨c, q0, q1, q2⟩))]
      exact g.2.2.2.2 x j (by omega) id
  exact hI_e (fun j hj => fr 37 j (by decide) (by unfold qscf; omega)) fun z hz => funext fun j => fr z j (by omega) (by unfold qscf; omega)
