/-! The class writes letters with the contractions of a code. -/
theorem qkne {T : zS} {x y : Int} {p q : Nat × Int} (h1 : zk T x = p) (h2 : zk T y = q) (h : p ≠ q) : x ≠ y := fun e => h (by rw [← h1, ← h2, e])
def qsc (T : Int → Int → Int) (ws : Int → Int) (k at_ : Int) : List (Int × Int) := if k = -1 then [(qlc (ws at_), at_ + 1)] else if T 4 k = 0 then [(T 3 k, at_ + T 0 k)] else [(T 3 k, at_ + T 0 k), (T 4 k, at_ + T 0 k)]
def qnxt (T : Int → Int → Int) (k at_ : Int) : Int := if k = -1 then at_ + 1 else at_ + T 0 k
def qus (k u : Int) : Int := if k = -1 then u else zor u (zshl 1 k)
def qct (T : Int → Int → Int) (ws best : Int → Int) (n : Int) : Nat → Int → List (Int × Int)
  | 0, _ => []
  | f + 1, at_ => if n ≤ at_ then [] else qsc T ws (best at_) at_ ++ qct T ws best n f (qnxt T (best at_) at_)
def qcu (T : Int → Int → Int) (best : Int → Int) (n : Int) : Nat → Int → Int → Int
  | 0, _, u => u
  | f + 1, at_, u => if n ≤ at_ then u else qcu T best n f (qnxt T (best at_) at_) (qus (best at_) u)
def qcc (C : List (Int × Int)) (p : Int) : Int := (C.countP fun x => decide (x.2 ≤ p) : Nat)
theorem qcc_g (C D : List (Int × Int)) (p : Int) (h : ∀ x ∈ D, p < x.2) : qcc (C ++ D) p = qcc C p := by
  unfold qcc
  have e : D.countP (fun x => decide (x.2 ≤ p)) = 0 := List.countP_eq_zero.mpr fun x hx => by
    have := h x hx
    simp only [decide_eq_true_eq]
    omega
  rw [List.countP_append, e]
  rfl
theorem qcc_a (C : List (Int × Int)) (p : Int) (h : ∀ x ∈ C, x.2 ≤ p) : qcc C p = C.length := by
  unfold qcc
  have e : C.countP (fun x => decide (x.2 ≤ p)) = C.length := List.countP_eq_length.mpr fun x hx => by
    simp only [decide_eq_true_eq]
    exact h x hx
  rw [e]
def qpl (P n : Int) : Nat → List Int
  | 0 => []
  | i + 1 => qpl P n i ++ if qbt P ((i : Int) + 1) = 1 ∨ ((i : Int) + 1 = n) then [(i : Int) + 1] else []
theorem qpl_m (P n : Int) : ∀ (i : Nat) (p : Int), p ∈ qpl P n i → 0 < p ∧ p ≤ i := by
  intro i
  induction i with
  | zero => intro p h; simp [qpl] at h
  | succ i ih =>
    intro p h
    simp only [qpl, List.mem_append] at h
    rcases h with h | h
    · have := ih p h
      omega
    · split at h
      · simp only [List.mem_singleton] at h
        omega
      · simp at h
theorem qpl_a (P n : Int) (a : Nat) : ∀ f : Nat, (∀ i : Int, a < i → i ≤ a + f → qbt P i = 0 ∧ i ≠ n) → qpl P n (a + f) = qpl P n a := by
  intro f
  induction f with
  | zero => intro _; rfl
  | succ f ih =>
    intro h
    have h1 := h ((a + f : Nat) + 1) (by omega) (by omega)
    show qpl P n (a + f + 1) = _
    rw [qpl, ih fun i h2 h3 => h i h2 (by omega), if_neg (by
      rw [h1.1]
      intro q
      rcases q with q | q
      · exact absurd q (by decide)
      · exact h1.2 q), List.append_nil]
theorem qpl_j (P n a x : Int) (h0 : 0 ≤ a ∧ a < x) (h : ∀ i : Int, a < i → i < x → qbt P i = 0 ∧ i ≠ n) : qpl P n x.toNat = qpl P n a.toNat ++ if qbt P x = 1 ∨ x = n then [x] else [] := by
  have e := qpl_a P n a.toNat (x - a - 1).toNat fun i h1 h2 => h i (by omega) (by omega)
  rw [show x.toNat = a.toNat + (x - a - 1).toNat + 1 by omega, qpl, e, show ((a.toNat + (x - a - 1).toNat : Nat) : Int) + 1 = x by omega]
theorem qpl_l (P n : Int) (a : Nat) : ∀ f : Nat, (qpl P n a).length ≤ (qpl P n (a + f)).length := by
  intro f
  induction f with
  | zero => exact Nat.le_refl _
  | succ f ih =>
    show _ ≤ (qpl P n (a + f + 1)).length
    rw [qpl, List.length_append]
    omega
theorem qbs_s (cw cnt : Int → Int) : ∀ (f : Nat) (k best most : Int), qbs cw cnt f k best most = best ∨ (k ≤ qbs cw cnt f k best most ∧ qbs cw cnt f k best most < k + f ∧ cw (qbs cw cnt f k best most) ≠ 0 ∧ most < cnt (qbs cw cnt f k best most)) := by
  intro f
  induction f with
  | zero => intro k best most; exact Or.inl rfl
  | succ f ih =>
    intro k best most
    simp only [qbs]
    by_cases h : most < cnt k ∧ cw k ≠ 0
    · rw [if_pos h]
      rcases ih (k + 1) k (cnt k) with h1 | h1
      · rw [h1]
        exact Or.inr ⟨by omega, by omega, h.2, h.1⟩
      · exact Or.inr ⟨by omega, by omega, h1.2.2.1, by omega⟩
    · rw [if_neg h]
      rcases ih (k + 1) best most with h1 | h1
      · exact Or.inl h1
      · exact Or.inr ⟨by omega, by omega, h1.2.2.1, h1.2.2.2⟩
theorem qbs_n (cw cnt : Int → Int) (h : ∀ k, cw k = 0) : ∀ (f : Nat) (k best most : Int), qbs cw cnt f k best most = best := by
  intro f
  induction f with
  | zero => intro k best most; rfl
  | succ f ih =>
    intro k best most
    simp only [qbs]
    rw [if_neg fun q => q.2 (h k)]
    exact ih _ _ _
theorem qc_1 {p : Prop} (h : qc p ≠ 0) : p := by
  by_cases q : p
  · exact q
  · exact absurd (qc_n q) h
/-- the best contraction to write at a place -/
noncomputable def qbw (T : Int → Int → Int) (N g : Int) (ws : Int → Int) (P n at_ : Int) : Int := qbs (fun k => qc (qCW T k g ws n (qEn P n at_) at_)) (T 0) N.toNat 0 (-1) 0
def qTok (T : Int → Int → Int) (N : Int) : Prop := ∀ k, 0 ≤ k → k < N → (2 ≤ T 0 k ∧ T 0 k ≤ 6) ∧ (1 ≤ T 1 k ∧ T 1 k ≤ 3) ∧ (0 ≤ T 2 k ∧ T 2 k ≤ 4) ∧ (0 < T 3 k ∧ T 3 k < 64) ∧ (0 ≤ T 4 k ∧ T 4 k < 64) ∧ ∀ j, 0 ≤ j → j < T 0 k → 0 ≤ T (5 + j) k ∧ T (5 + j) k < 26
theorem qbw_s {T : Int → Int → Int} {N g : Int} {ws : Int → Int} {P n at_ : Int} (h0 : 0 ≤ N) : qbw T N g ws P n at_ = -1 ∨ (0 ≤ qbw T N g ws P n at_ ∧ qbw T N g ws P n at_ < N ∧ qCW T (qbw T N g ws P n at_) g ws n (qEn P n at_) at_) := by
  rcases qbs_s (fun k => qc (qCW T k g ws n (qEn P n at_) at_)) (T 0) N.toNat 0 (-1) 0 with h | ⟨h1, h2, h3, h4⟩
  · exact Or.inl h
  · exact Or.inr ⟨h1, by unfold qbw; omega, qc_1 h3⟩
theorem qbw_l {T : Int → Int → Int} {N : Int} {ws : Int → Int} {P n at_ : Int} (hN : 0 ≤ N) (hT : qTok T N) : qbw T N (-1) ws P n at_ = -1 := by
  rcases qbw_s (T := T) (N := N) (g := -1) (ws := ws) (P := P) (n := n) (at_ := at_) hN with h | ⟨h1, h2, h3⟩
  · exact h
  · have := (hT _ h1 h2).2.1.1
    have := h3.1
    omega
/-- what a step from a place does -/
theorem qbw_x {T : Int → Int → Int} {N g : Int} {ws : Int → Int} {P n at_ : Int} (hN : 0 ≤ N) (hT : qTok T N) (h : 0 ≤ at_ ∧ at_ < n ∧ n ≤ 10) : at_ < qnxt T (qbw T N g ws P n at_) at_ ∧ qnxt T (qbw T N g ws P n at_) at_ ≤ qEn P n at_ ∧ ((qsc T ws (qbw T N g ws P n at_) at_).length : Int) ≤ qnxt T (qbw T N g ws P n at_) at_ - at_ ∧ (∀ x ∈ qsc T ws (qbw T N g ws P n at_) at_, x.2 = qnxt T (qbw T N g ws P n at_) at_) := by
  obtain ⟨a1, a2, a3, a4⟩ := qEn_s P n at_ h
  rcases qbw_s (T := T) (N := N) (g := g) (ws := ws) (P := P) (n := n) (at_ := at_) hN with e | ⟨h1, h2, h3⟩
  · rw [e]
    unfold qnxt qsc
    rw [if_pos rfl, if_pos rfl]
    refine ⟨by omega, by omega, ?_, fun x hx => ?_⟩
    · show (1 : Int) ≤ _
      omega
    · simp only [List.mem_singleton] at hx
      rw [hx]
  · have t := (hT _ h1 h2).1
    have := h3.2.1
    unfold qnxt qsc
    rw [if_neg (show ¬ qbw T N g ws P n at_ = -1 by omega), if_neg (show ¬ qbw T N g ws P n at_ = -1 by omega)]
    refine ⟨by omega, by omega, ?_, fun x hx => ?_⟩
    · split
      · show (1 : Int) ≤ _
        omega
      · show (2 : Int) ≤ _
        omega
    · split at hx
      · simp only [List.mem_singleton] at hx
        rw [hx]
      · simp only [List.mem_cons, List.not_mem_nil, or_false] at hx
        rcases hx with hx | hx <;> rw [hx]
theorem qCo_f {S : zS} {a N w b c : Int} {T : Int → Int → Int} {m' : Int → Int → Int} (ha : qCo S a N T) (hk : qWk S w b c) (hf : qfw w b c (zm S) m') : qCo (qW S m') a N T := by
  obtain ⟨k1, k2, x1, hN, hc⟩ := ha
  obtain ⟨w1, w2, w3, -⟩ := hk
  have e1 : m' a = zm S a := hf a (qkne k1 w1 (by decide)) (qkne k1 w2 (by decide)) (qkne k1 w3 (by decide))
  have e2 : m' (zm S a 0) = zm S (zm S a 0) := hf _ (qkne k2 w1 (by decide)) (qkne k2 w2 (by decide)) (qkne k2 w3 (by decide))
  refine ⟨k1, ?_, ?_, hN, fun k h1 h2 => ?_⟩
  · show zk S (m' a 0) = _
    rw [e1, k2]
  · show m' a 1 = _
    rw [e1, x1]
  · show qCt (qW S m') (m' (m' a 0) k) T k
    rw [e1, e2]
    obtain ⟨z1, z2, z3, z4, z5, z6, z7, z8, z9, z10⟩ := hc k h1 h2
    have e3 : m' (zm S (zm S a 0) k) = zm S (zm S (zm S a 0) k) := hf _ (qkne z1 w1 (by decide)) (qkne z1 w2 (by decide)) (qkne z1 w3 (by decide))
    have e4 : m' (zm S (zm S (zm S a 0) k) 0) = zm S (zm S (zm S (zm S a 0) k) 0) := hf _ (qkne z2 w1 (by decide)) (qkne z2 w2 (by decide)) (qkne z2 w3 (by decide))
    refine ⟨z1, ?_, ?_, ?_, ?_, ?_, ?_, z8, z9, fun j h3 h4 => ?_⟩
    · show zk S (m' _ 0) = _
      rw [e3, z2]
    · show m' _ 1 = _
      rw [e3, z3]
    · show m' _ 2 = _
      rw [e3, z4]
    · show m' _ 3 = _
      rw [e3, z5]
    · show m' _ 4 = _
      rw [e3, z6]
    · show m' _ 5 = _
      rw [e3, z7]
    · show m' (m' _ 0) j = _
      rw [e3, e4, z10 j h3 h4]
theorem qDo_f {S : zS} {a P n w b c : Int} {m' : Int → Int → Int} (ha : qDo S a P n) (hk : qWk S w b c) (hc : a ≠ 0 → zm S a 2 ≠ c) (hf : qfw w b c (zm S) m') : qDo (qW S m') a P n := by
  rcases ha with ha | ⟨h0, k1, p1, k2, b1, g1, g2, g3, g4⟩
  · exact Or.inl ha
  · obtain ⟨w1, w2, w3, -⟩ := hk
    have e1 : m' a = zm S a := hf a (qkne k1 w1 (by decide)) (qkne k1 w2 (by decide)) (qkne k1 w3 (by decide))
    have e2 : m' (zm S a 2) = zm S (zm S a 2) := hf _ (qkne k2 w1 (by decide)) (qkne k2 w2 (by decide)) (hc h0)
    refine Or.inr ⟨h0, ?_⟩
    show zk S a = _ ∧ m' a 1 = _ ∧ zk S (m' a 2) = _ ∧ (1 ≤ m' a 3 ∧ m' a 3 ≤ 4) ∧ (∀ j, 0 ≤ j → j < m' a 3 → 0 < m' (m' a 2) j ∧ m' (m' a 2) j ≤ n ∧ qbt P (m' (m' a 2) j) = 1) ∧ (∀ j, 0 ≤ j → j + 1 < m' a 3 → m' (m' a 2) j < m' (m' a 2) (j + 1)) ∧ m' (m' a 2) (m' a 3 - 1) = n ∧ (∀ p, 0 ≤ p → p < n → qbt P p = 1 → ∃ j, 0 ≤ j ∧ j < m' a 3 ∧ m' (m' a 2) j = p)
    rw [e1, e2]
    exact ⟨k1, p1, k2, b1, g1, g2, g3, g4⟩
theorem s_appendCells (d : Nat) (S : zS) (x w b c mk con k : Int) (T : Int → Int → Int) (L E : List Int) (h : 2 ≤ d) (hx : qCt S x T k) (hk : qWk S w b c) (hp : qWp (zm S) w b c L mk con E) (hl : L.length < 15) :
    ∃ m', zD d 23 [vr x, vr w] S = some (.inl none, qW S m') ∧ qWp m' w b c (L ++ if T 4 k = 0 then [T 3 k] else [T 3 k, T 4 k]) mk con E ∧ qfw w b c (zm S) m' := by
  obtain ⟨e, rfl, h1⟩ := qd h
  obtain ⟨k1, k2, x1, x2, x3, x4, x5, b1, b2, hl2⟩ := hx
  have w1 := hk.1
  obtain ⟨m1, r1, p1, f1⟩ := s_wrAppend e S w b c mk con (T 3 k) L E (by omega) hk hp (by omega)
  have e1 : m1 x = zm S x := f1 x (qkne k1 w1 (by decide)) (qkne k1 hk.2.1 (by decide)) (qkne k1 hk.2.2.1 (by decide))
  by_cases c1 : T 4 k = 0
  · refine ⟨m1, ?_, by rw [if_pos c1]; exact p1, f1⟩
    simp (config := { maxSteps := 2000000 }) (disch := first | omega | (simp only [k1, w1, qb_in, qkW, qmW, qnW, true_and, and_true, or_self, true_or, or_true, and_self]; done) | (simp only [k1, w1, qb_in, qkW, qmW, qnW, true_and, and_true, or_self, true_or, or_true, and_self]; omega)) only [zD_23, b23_0, b23_8, b23_15, b23_23, qcall_l, qcall_r, qretn_l, qJ_s, qJ_n, qV0, qEx, ↓qif0, ↓zchk_pos, ↓reduceIte, qput, qWW, qmW, qkW, qnW, k1, w1, x4, r1, e1, x5, if_pos c1]
  · obtain ⟨m2, r2, p2, f2⟩ := s_wrAppend e (qW S m1) w b c mk con (T 4 k) (L ++ [T 3 k]) E (by omega) hk p1 (by rw [List.length_append]; show L.length + 1 < 16; omega)
    refine ⟨m2, ?_, ?_, qfw_t f1 f2⟩
    · simp (config := { maxSteps := 2000000 }) (disch := first | omega | (simp only [k1, w1, qb_in, qkW, qmW, qnW, true_and, and_true, or_self, true_or, or_true, and_self]; done) | (simp only [k1, w1, qb_in, qkW, qmW, qnW, true_and, and_true, or_self, true_or, or_true, and_self]; omega)) only [zD_23, b23_0, b23_8, b23_15, b23_23, qcall_l, qcall_r, qretn_l, qJ_s, qJ_n, qV0, qEx, ↓qif0, ↓zchk_pos, ↓reduceIte, qput, qWW, qmW, qkW, qnW, k1, w1, x4, r1, e1, x5, r2, if_neg c1]
    · rw [if_neg c1]
      rw [List.append_assoc] at p2
      exact p2
theorem s_contract (d : Nat) (S : zS) (a N g sw sb w b c D P n mk con : Int) (T : Int → Int → Int) (ws : Int → Int) (L0 : List Int) (h : 5 ≤ d) (hK : qK S) (hL : qLt (zm S)) (ha : qCo S a N T) (hT : qTok T N)
    (kw : zk S sw = (28, 0)) (pw : zm S sw 0 = sb) (kb : zk S sb = (0, 10)) (pn : zm S sw 1 = n) (hn : 0 ≤ n ∧ n ≤ 10) (hw : ∀ j, 0 ≤ j → j < n → zm S sb j = ws j)
    (hD : qDo S D P n) (hDc : D ≠ 0 → zm S D 2 ≠ c) (hk : qWk S w b c) (hp : qWp (zm S) w b c L0 mk con []) (hl : L0.length ≤ 5) (h4 : (qpl P n n.toNat).length ≤ 4) :
    ∃ m', zD d 22 [vr a, vr sw, vr D, vi g, vr w] S = some (.inl none, qW S m') ∧ qWp m' w b c (L0 ++ (qct T ws (qbw T N g ws P n) n n.toNat 0).map Prod.fst) mk (qcu T (qbw T N g ws P n) n n.toNat 0 con) ((qpl P n n.toNat).map fun p => L0.length + qcc (qct T ws (qbw T N g ws P n) n n.toNat 0) p) ∧ qfw w b c (zm S) m' := by
  obtain ⟨e, rfl, h1⟩ := qd h
  have w1 := hk.1
  have a1 := ha.1
  have hN := ha.2.2.2.1.1
  have lp : ∀ (f : Nat) (at_ : Int) (m : Int → Int → Int) (C0 : List (Int × Int)) (u : Int) (y6 y7 : zV), 0 ≤ at_ → at_ ≤ n → n ≤ at_ + f → qfw w b c (zm S) m → qWp m w b c (L0 ++ C0.map Prod.fst) mk u ((qpl P n at_.toNat).map fun p => L0.length + qcc C0 p) → (C0.length : Int) ≤ at_ → (∀ x ∈ C0, x.2 ≤ at_) →
      ∃ m', zF_22 e 3 [vr a, vr sw, vr D, vi g, vr w, vi at_, y6, y7] [] (qW S m) = some (.inl none, qW S m') ∧ qWp m' w b c (L0 ++ (C0 ++ qct T ws (qbw T N g ws P n) n f at_).map Prod.fst) mk (qcu T (qbw T N g ws P n) n f at_ u) ((qpl P n n.toNat).map fun p => L0.length + qcc (C0 ++ qct T ws (qbw T N g ws P n) n f at_) p) ∧ qfw w b c (zm S) m' := by
    intro f
    induction f with
    | zero =>
      intro at_ m C0 u y6 y7 h2 h3 h4 hf hp hc hx
      have e1 : m sw = zm S sw := hf sw (qkne kw w1 (by decide)) (qkne kw hk.2.1 (by decide)) (qkne kw hk.2.2.1 (by decide))
      rw [b22_3]
      refine ⟨m, ?_, ?_, hf⟩
      · simp (config := { maxSteps := 2000000 }) (disch := first | omega | (simp only [kw, qb_in, qkW, qmW, qnW, true_and, and_true, or_self, true_or, or_true, and_self]; done) | (simp only [kw, qb_in, qkW, qmW, qnW, true_and, and_true, or_self, true_or, or_true, and_self]; omega)) only [b22_0, b22_12, b22_19, b22_31, b22_39, b22_51, b22_54, b22_60, b22_72, b22_89, b22_105, b22_112, b22_117, b22_120, qcall_l, qcall_r, qretn_l, qJ_s, qJ_n, qV0, qEx, ↓qif0, ↓zchk_pos, ↓reduceIte, qput, qWW, qmW, qkW, qnW, kw, e1, pn, if_neg (show ¬ at_ < n by omega)]
      · simp only [qct, qcu, List.append_nil]
        rw [show n = at_ by omega] at hp ⊢
        exact hp
    | succ f ih =>
      intro at_ m C0 u y6 y7 h2 h3 h4' hf hp hc hx
      have e1 : m sw = zm S sw := hf sw (qkne kw w1 (by decide)) (qkne kw hk.2.1 (by decide)) (qkne kw hk.2.2.1 (by decide))
      have e2 : m sb = zm S sb := hf sb (qkne kb w1 (by decide)) (qkne kb hk.2.1 (by decide)) (qkne kb hk.2.2.1 (by decide))
      have e3 : m 2 = zm S 2 := hf 2 (qkne (K_2 hK) w1 (by decide)) (qkne (K_2 hK) hk.2.1 (by decide)) (qkne (K_2 hK) hk.2.2.1 (by decide))
      simp only [qct, qcu]
      rw [b22_3]
      by_cases c0 : n ≤ at_
      · rw [if_pos c0, if_pos c0]
        refine ⟨m, ?_, ?_, hf⟩
        · simp (config := { maxSteps := 2000000 }) (disch := first | omega | (simp only [kw, qb_in, qkW, qmW, qnW, true_and, and_true, or_self, true_or, or_true, and_self]; done) | (simp only [kw, qb_in, qkW, qmW, qnW, true_and, and_true, or_self, true_or, or_true, and_self]; omega)) only [b22_0, b22_12, b22_19, b22_31, b22_39, b22_51, b22_54, b22_60, b22_72, b22_89, b22_105, b22_112, b22_117, b22_120, qcall_l, qcall_r, qretn_l, qJ_s, qJ_n, qV0, qEx, ↓qif0, ↓zchk_pos, ↓reduceIte, qput, qWW, qmW, qkW, qnW, kw, e1, pn, if_neg (show ¬ at_ < n by omega)]
        · rw [List.append_nil]
          rw [show n = at_ by omega] at hp ⊢
          exact hp
      · rw [if_neg c0, if_neg c0]
        have ha' := qCo_f ha hk hf
        have hD' := qDo_f hD hk hDc hf
        have hw' : ∀ j, 0 ≤ j → j < n → zm (qW S m) sb j = ws j := fun j h5 h6 => by
          rw [qmW, e2]
          exact hw j h5 h6
        have eo := s_endOfPart e (qW S m) sw D P n at_ (by omega) kw (by rw [qmW, e1, pn]) hD' ⟨h2, by omega, hn.2⟩
        have lf := s_longestFor e (qW S m) a N g sw sb n at_ (qEn P n at_) T ws (by omega) ha' kw (by rw [qmW, e1, pw]) kb (by rw [qmW, e1, pn]) hn.2 (by have := qEn_s P n at_ ⟨h2, by omega, hn.2⟩; omega) (by omega) hw'
        have lf2 : zD e 24 [vr a, vr sw, vi at_, vi (qEn P n at_), vi g] (qW S m) = some (.inl (some (vi (qbw T N g ws P n at_))), qW S m) := lf
        obtain ⟨E1, E2, E3, E4⟩ := qEn_s P n at_ ⟨h2, by omega, hn.2⟩
        obtain ⟨X1, X2, X3, X4⟩ := qbw_x (g := g) (ws := ws) (P := P) (n := n) (at_ := at_) hN hT ⟨h2, by omega, hn.2⟩
        have hC : ∀ (D : List (Int × Int)) (nx : Int), at_ < nx → nx ≤ qEn P n at_ → (∀ x ∈ D, x.2 = nx) → ((qpl P n nx.toNat).map fun p => (L0.length : Int) + qcc (C0 ++ D) p) = ((qpl P n at_.toNat).map fun p => (L0.length : Int) + qcc C0 p) ++ if nx = qEn P n at_ then [(L0.length : Int) + (C0.length + D.length)] else [] := by
          intro D nx n1 n2 n3
          rw [qpl_j P n at_ nx ⟨h2, n1⟩ fun i i1 i2 => ⟨E3 i i1 (by omega), by omega⟩, List.map_append]
          congr 1
          · refine List.map_congr_left fun p hp => ?_
            have := qpl_m _ _ _ _ hp
            rw [qcc_g C0 D p fun x hx => by rw [n3 x hx]; omega]
          · by_cases c1 : nx = qEn P n at_
            · rw [if_pos c1, if_pos (by
                by_cases c2 : nx = n
                · exact Or.inr c2
                · exact Or.inl (by rw [c1]; exact E4 (by omega)))]
              show [(L0.length : Int) + qcc (C0 ++ D) nx] = _
              rw [qcc_a (C0 ++ D) nx fun x hx' => by
                rcases List.mem_append.mp hx' with q | q
                · have := hx x q
                  omega
                · rw [n3 x q]
                  exact Int.le_refl _, List.length_append]
              congr 2
            · rw [if_neg c1, if_neg (by
                rw [E3 nx n1 (by omega)]
                intro q
                rcases q with q | q
                · exact absurd q (by decide)
                · omega)]
              rfl
        have hq : ∀ (nx : Int), at_ < nx → nx = qEn P n at_ → (qpl P n at_.toNat).length < 4 := by
          intro nx n1 n2
          have q1 := qpl_j P n at_ nx ⟨h2, n1⟩ fun i i1 i2 => ⟨E3 i i1 (by omega), by omega⟩
          rw [if_pos (by
                by_cases c2 : nx = n
                · exact Or.inr c2
                · exact Or.inl (by rw [n2]; exact E4 (by omega)))] at q1
          have q2 := qpl_l P n nx.toNat (n - nx).toNat
          rw [show nx.toNat + (n - nx).toNat = n.toNat by omega, q1, List.length_append] at q2
          have : ([nx] : List Int).length = 1 := rfl
          omega
        generalize hbe : qbw T N g ws P n at_ = be at X1 X2 X3 X4 lf2 ⊢
        rw [← List.append_assoc]
        have hlen : (L0 ++ C0.map Prod.fst).length < 15 := by
          rw [List.length_append, List.length_map]
          omega
        by_cases c1 : be = -1
        · have hne : 0 ≤ at_ ∧ at_ < 10 := by omega
          have gl := s_letterCell e (qW S m) (ws at_) (by omega) hK (fun q hq => by rw [qmW, e3]; exact hL q hq)
          have hwa := hw at_ h2 (by omega)
          obtain ⟨m1, r1, p1, f1⟩ := s_wrAppend e (qW S m) w b c mk u (qlc (ws at_)) _ _ (by omega) hk hp (by omega)
          have es : qsc T ws be at_ = [(qlc (ws at_), at_ + 1)] := by unfold qsc; rw [if_pos c1]
          have en : qnxt T be at_ = at_ + 1 := by unfold qnxt; rw [if_pos c1]
          have eu : qus be u = u := by unfold qus; rw [if_pos c1]
          rw [es, en, eu]
          rw [es] at X3 X4
          rw [en] at X1 X2 X3 X4
          have hC1 := hC [(qlc (ws at_), at_ + 1)] (at_ + 1) X1 X2 X4
          by_cases c2 : at_ + 1 = qEn P n at_
          · obtain ⟨m2, r2, p2, f2⟩ := s_wrEndPart e (qW S m1) w b c mk u _ _ (by omega) hk p1 (by rw [List.length_map]; exact hq _ X1 c2)
            simp (config := { maxSteps := 2000000 }) (disch := first | omega | (simp only [kw, a1, w1, e1, e2, pw, kb, q32, qb_in, qkW, qmW, qnW, true_and, and_true, or_self, true_or, or_true, and_self]; done) | (simp only [kw, a1, w1, e1, e2, pw, kb, q32, qb_in, qkW, qmW, qnW, true_and, and_true, or_self, true_or, or_true, and_self]; omega)) only [b22_0, b22_12, b22_19, b22_31, b22_39, b22_51, b22_54, b22_60, b22_72, b22_89, b22_105, b22_112, b22_117, b22_120, qcall_l, qcall_r, qretn_l, qJ_s, qJ_n, qV0, qEx, ↓qif0, ↓zchk_pos, ↓reduceIte, qput, qWW, qmW, qkW, qnW, kw, a1, w1, e1, e2, pn, pw, kb, hwa, if_pos (show at_ < n by omega), eo, lf2, if_pos c1, gl, r1, r2, if_neg (show ¬ at_ + 1 < qEn P n at_ by omega), q32]
            refine ih (at_ + 1) m2 _ u _ _ (by omega) (by omega) (by omega) (qfw_t hf (qfw_t f1 f2)) ?_ (by rw [List.length_append]; show ((C0.length + 1 : Nat) : Int) ≤ _; omega) (fun x hx' => by
              rcases List.mem_append.mp hx' with q | q
              · have := hx x q
                omega
              · rw [X4 x q]
                exact Int.le_refl _)
            rw [hC1, if_pos c2, List.map_append, ← List.append_assoc]
            rw [List.length_append, List.length_append, List.length_map] at p2
            exact p2
          · simp (config := { maxSteps := 2000000 }) (disch := first | omega | (simp only [kw, a1, w1, e1, e2, pw, kb, q32, qb_in, qkW, qmW, qnW, true_and, and_true, or_self, true_or, or_true, and_self]; done) | (simp only [kw, a1, w1, e1, e2, pw, kb, q32, qb_in, qkW, qmW, qnW, true_and, and_true, or_self, true_or, or_true, and_self]; omega)) only [b22_0, b22_12, b22_19, b22_31, b22_39, b22_51, b22_54, b22_60, b22_72, b22_89, b22_105, b22_112, b22_117, b22_120, qcall_l, qcall_r, qretn_l, qJ_s, qJ_n, qV0, qEx, ↓qif0, ↓zchk_pos, ↓reduceIte, qput, qWW, qmW, qkW, qnW, kw, a1, w1, e1, e2, pn, pw, kb, hwa, if_pos (show at_ < n by omega), eo, lf2, if_pos c1, gl, r1, if_pos (show at_ + 1 < qEn P n at_ by omega), q32]
            refine ih (at_ + 1) m1 _ u _ _ (by omega) (by omega) (by omega) (qfw_t hf f1) ?_ (by rw [List.length_append]; show ((C0.length + 1 : Nat) : Int) ≤ _; omega) (fun x hx' => by
              rcases List.mem_append.mp hx' with q | q
              · have := hx x q
                omega
              · rw [X4 x q]
                exact Int.le_refl _)
            rw [hC1, if_neg c2, List.map_append, ← List.append_assoc, List.append_nil]
            exact p1
        · have hbr : 0 ≤ be ∧ be < N := by
            rcases qbw_s (T := T) (N := N) (g := g) (ws := ws) (P := P) (n := n) (at_ := at_) hN with q | ⟨q1, q2, -⟩
            · rw [hbe] at q
              exact absurd q c1
            · rw [hbe] at q1 q2
              exact ⟨q1, q2⟩
          have ht := hT be hbr.1 hbr.2
          obtain ⟨k1', k2', x1', hN', hc'⟩ := ha'
          have hct := hc' be hbr.1 hbr.2
          obtain ⟨m1, r1, p1, f1⟩ := s_appendCells e (qW S m) _ w b c mk u be T _ _ (by omega) hct hk hp hlen
          have es : qsc T ws be at_ = (if T 4 be = 0 then [T 3 be] else [T 3 be, T 4 be]).map fun v => (v, at_ + T 0 be) := by
            unfold qsc
            rw [if_neg c1]
            split <;> rfl
          have esf : (qsc T ws be at_).map Prod.fst = if T 4 be = 0 then [T 3 be] else [T 3 be, T 4 be] := by
            unfold qsc
            rw [if_neg c1]
            split <;> rfl
          have esl : (qsc T ws be at_).length = (if T 4 be = 0 then [T 3 be] else [T 3 be, T 4 be]).length := by rw [es, List.length_map]
          have en : qnxt T be at_ = at_ + T 0 be := by unfold qnxt; rw [if_neg c1]
          have eu : qus be u = zor u (zshl 1 be) := by unfold qus; rw [if_neg c1]
          rw [en, eu]
          rw [en] at X1 X2 X3 X4
          have hC1 := hC (qsc T ws be at_) (at_ + T 0 be) X1 X2 X4
          obtain ⟨y1, y2, z1, -⟩ := hct
          have p1c := p1.2.2.2.2.1
          have f2 : qfw w b c m1 (qu m1 w 3 (zor u (zshl 1 be))) := qfw_u _ _ _ _ (by simp)
          have p1' : qWp (qu m1 w 3 (zor u (zshl 1 be))) w b c (L0 ++ C0.map Prod.fst ++ if T 4 be = 0 then [T 3 be] else [T 3 be, T 4 be]) mk (zor u (zshl 1 be)) ((qpl P n at_.toNat).map fun p => L0.length + qcc C0 p) := by
            obtain ⟨i1, i2, i3, i4, i5, i6, i7, i8⟩ := p1
            refine ⟨?_, ?_, ?_, ?_, qu_s _ _ _ _, ?_, qA_u i7 _ _ _ (Or.inl hk.2.2.2.1), qA_u i8 _ _ _ (Or.inl hk.2.2.2.2.1)⟩
            all_goals rw [qu_i _ _ _ _ _ (by decide)]
            all_goals assumption
          have e5 : ∀ x, zk S x ≠ (31, 0) → zk S x ≠ (0, 16) → zk S x ≠ (0, 4) → qu m1 w 3 (zor u (zshl 1 be)) x = m x := fun x q1 q2 q3 => by
            have n1 : x ≠ w := fun q => q1 (by rw [q, w1])
            have n2 : x ≠ b := fun q => q2 (by rw [q, hk.2.1])
            have n3 : x ≠ c := fun q => q3 (by rw [q, hk.2.2.1])
            rw [f2 x n1 n2 n3, f1 x n1 n2 n3]
            rfl
          have e6 : qu m1 w 3 (zor u (zshl 1 be)) a = m a := e5 a (by rw [a1]; decide) (by rw [a1]; decide) (by rw [a1]; decide)
          have e7 : qu m1 w 3 (zor u (zshl 1 be)) (m a 0) = m (m a 0) := e5 _ (by rw [show zk S (m a 0) = _ from k2']; decide) (by rw [show zk S (m a 0) = _ from k2']; decide) (by rw [show zk S (m a 0) = _ from k2']; decide)
          have e8 : qu m1 w 3 (zor u (zshl 1 be)) (m (m a 0) be) = m (m (m a 0) be) := e5 _ (by rw [show zk S (m (m a 0) be) = _ from y1]; decide) (by rw [show zk S (m (m a 0) be) = _ from y1]; decide) (by rw [show zk S (m (m a 0) be) = _ from y1]; decide)
          have y1' : zk S (m (m a 0) be) = (23, 0) := y1
          have z1' : m (m (m a 0) be) 1 = T 0 be := z1
          have k2'' : zk S (m a 0) = (12, 24) := k2'
          simp only [qmW] at r1
          by_cases c2 : at_ + T 0 be = qEn P n at_
          · obtain ⟨m2, r2, p2, f3⟩ := s_wrEndPart e (qW S (qu m1 w 3 (zor u (zshl 1 be)))) w b c mk (zor u (zshl 1 be)) _ _ (by omega) hk p1' (by rw [List.length_map]; exact hq _ X1 c2)
            simp (config := { maxSteps := 2000000 }) (disch := first | omega | (simp only [kw, a1, w1, e1, k2'', y1', q32, e6, e7, e8, z1', if_pos (show (1 : Int) < T 0 be by omega), qb_in, qkW, qmW, qnW, true_and, and_true, or_self, true_or, or_true, and_self]; done) | (simp only [kw, a1, w1, e1, k2'', y1', q32, e6, e7, e8, z1', if_pos (show (1 : Int) < T 0 be by omega), qb_in, qkW, qmW, qnW, true_and, and_true, or_self, true_or, or_true, and_self]; omega)) only [b22_0, b22_12, b22_19, b22_31, b22_39, b22_51, b22_54, b22_60, b22_72, b22_89, b22_105, b22_112, b22_117, b22_120, qcall_l, qcall_r, qretn_l, qJ_s, qJ_n, qV0, qEx, ↓qif0, ↓zchk_pos, ↓reduceIte, qput, qWW, qmW, qkW, qnW, kw, a1, w1, e1, pn, k2'', y1', z1', p1c, e6, e7, e8, if_pos (show (1 : Int) < T 0 be by omega), if_pos (show at_ < n by omega), eo, lf2, if_neg c1, r1, r2, if_neg (show ¬ at_ + T 0 be < qEn P n at_ by omega), q32]
            refine ih (at_ + T 0 be) m2 _ _ _ _ (by omega) (by omega) (by omega) (qfw_t hf (qfw_t f1 (qfw_t f2 f3))) ?_ (by rw [List.length_append]; omega) (fun x hx' => by
              rcases List.mem_append.mp hx' with q | q
              · have := hx x q
                omega
              · rw [X4 x q]
                exact Int.le_refl _)
            rw [hC1, if_pos c2, List.map_append, esf, ← List.append_assoc]
            rw [List.length_append, List.length_append, List.length_map, ← esl] at p2
            rw [show (L0.length : Int) + (C0.length + (qsc T ws be at_).length) = ((L0.length + C0.length + (qsc T ws be at_).length : Nat) : Int) by omega]
            exact p2
          · simp (config := { maxSteps := 2000000 }) (disch := first | omega | (simp only [kw, a1, w1, e1, k2'', y1', q32, e6, e7, e8, z1', if_pos (show (1 : Int) < T 0 be by omega), qb_in, qkW, qmW, qnW, true_and, and_true, or_self, true_or, or_true, and_self]; done) | (simp only [kw, a1, w1, e1, k2'', y1', q32, e6, e7, e8, z1', if_pos (show (1 : Int) < T 0 be by omega), qb_in, qkW, qmW, qnW, true_and, and_true, or_self, true_or, or_true, and_self]; omega)) only [b22_0, b22_12, b22_19, b22_31, b22_39, b22_51, b22_54, b22_60, b22_72, b22_89, b22_105, b22_112, b22_117, b22_120, qcall_l, qcall_r, qretn_l, qJ_s, qJ_n, qV0, qEx, ↓qif0, ↓zchk_pos, ↓reduceIte, qput, qWW, qmW, qkW, qnW, kw, a1, w1, e1, pn, k2'', y1', z1', p1c, e6, e7, e8, if_pos (show (1 : Int) < T 0 be by omega), if_pos (show at_ < n by omega), eo, lf2, if_neg c1, r1, if_pos (show at_ + T 0 be < qEn P n at_ by omega), q32]
            refine ih (at_ + T 0 be) _ _ _ _ _ (by omega) (by omega) (by omega) (qfw_t hf (qfw_t f1 f2)) ?_ (by rw [List.length_append]; omega) (fun x hx' => by
              rcases List.mem_append.mp hx' with q | q
              · have := hx x q
                omega
              · rw [X4 x q]
                exact Int.le_refl _)
            rw [hC1, if_neg c2, List.map_append, esf, ← List.append_assoc, List.append_nil]
            exact p1'
  obtain ⟨m', r, p, f⟩ := lp n.toNat 0 (zm S) [] con vu vu (by omega) (by omega) (by omega) (qfw_r _ _ _ _) (by
    simp only [List.map_nil, List.append_nil, Int.toNat_zero, qpl]
    exact hp) (by show (0 : Int) ≤ 0; omega) (fun x hx => by simp at hx)
  simp only [List.nil_append] at p
  refine ⟨m', ?_, p, f⟩
  rw [qWS] at r
  simp (config := { maxSteps := 2000000 }) (disch := first | omega | (simp only [qb_in, qkW, qmW, qnW, true_and, and_true, or_self, true_or, or_true, and_self]; done) | (simp only [qb_in, qkW, qmW, qnW, true_and, and_true, or_self, true_or, or_true, and_self]; omega)) only [zD_22, b22_0, b22_12, b22_19, b22_31, b22_39, b22_51, b22_54, b22_60, b22_72, b22_89, b22_105, b22_112, b22_117, b22_120, qcall_l, qcall_r, qretn_l, qJ_s, qJ_n, qV0, qEx, ↓qif0, ↓zchk_pos, ↓reduceIte, qput, qWW, qmW, qkW, qnW, r]
