/-! Passing days: who gets what, reckoned. -/
abbrev qQ : Type := (Int → Int) × (Int → Int) × (Int → Int) × (Int → Int) × (Int → Int) × Int × Int
theorem qcv_u {f g : Int → Int} {x v b : Int} (h0 : f x ≠ b) (h1 : g x = v) (h2 : ∀ i, i ≠ x → g i = f i) (hx : 0 ≤ x) : ∀ k : Nat, qcv g b k = qcv f b k + if v = b ∧ x < k then 1 else 0 := by
  intro k
  induction k with
  | zero =>
    rw [if_neg (by omega)]
    rfl
  | succ k ih =>
    rw [qcv, qcv, ih]
    by_cases c : x = (k : Int)
    · subst c
      rw [h1, if_neg h0, if_neg (show ¬ (v = b ∧ ((k : Nat) : Int) < ((k : Nat) : Int)) by omega)]
      by_cases cv : v = b
      · rw [if_pos cv, if_pos ⟨cv, by omega⟩]
      · rw [if_neg cv, if_neg (fun q => cv q.1)]
    · rw [h2 k fun q => c q.symm]
      by_cases cv : v = b ∧ x < (k : Int)
      · rw [if_pos cv, if_pos (show v = b ∧ x < ((k + 1 : Nat) : Int) from ⟨cv.1, by omega⟩)]
        omega
      · rw [if_neg cv, if_neg (show ¬ (v = b ∧ x < ((k + 1 : Nat) : Int)) by omega), Int.add_zero, Int.add_zero]
theorem qhl_v (m : Int → Int → Int) (r : Int) : ∀ k : Nat, qhl m r (-1) k = qcv (m 86) r k := by
  intro k
  induction k with
  | zero => rfl
  | succ k ih =>
    rw [qhl, qcv, ih]
    by_cases c : m 86 k = r
    · rw [if_pos ⟨c, Or.inl rfl⟩, if_pos c]
    · rw [if_neg (fun q => c q.1), if_neg c]
/-- a wish that can be met -/
abbrev qcan (M : Int → Int → Int) (p : qQ) (b i : Int) : Prop := p.2.2.2.2.1 i = b ∧ (¬ p.2.2.2.2.2.2 < M 62 b ∨ qbt (M 63 b) (p.2.2.2.1 i) = 1) ∧ qcv p.1 (p.2.2.2.1 i) (M 37 65).toNat < 2
def qwf_ (M : Int → Int → Int) (p : qQ) (b : Int) : Nat → Int
  | 0 => -1
  | i + 1 => if qcan M p b i ∧ (qwf_ M p b i = -1 ∨ M 90 (p.2.2.2.1 (qwf_ M p b i)) < M 90 (p.2.2.2.1 i)) then (i : Int) else qwf_ M p b i
theorem qwf_r_ (M : Int → Int → Int) (p : qQ) (b : Int) : ∀ k : Nat, -1 ≤ qwf_ M p b k ∧ qwf_ M p b k < k := by
  intro k
  induction k with
  | zero => exact ⟨Int.le_refl _, by show (-1 : Int) < 0; decide⟩
  | succ k ih =>
    rw [qwf_]
    split <;> omega
/-- the wish to which a copy goes -/
def qsw (M : Int → Int → Int) (p : qQ) (k : Int) : Int := if p.1 k = -1 ∧ qhp M k 160 < 2 then qwf_ M p (M 82 k) p.2.2.2.2.2.1.toNat else -1
def qse (f : Int → Int) (k v : Int) : Int → Int := fun i => if i = k then v else f i
def qsd (M : Int → Int → Int) (p : qQ) (k : Int) : qQ := if qsw M p k = -1 then p else (qse p.1 k (p.2.2.2.1 (qsw M p k)), qse p.2.1 k (p.2.2.2.2.2.2 + 20), qse p.2.2.1 k (z32 (p.2.2.1 k + 1)), qrm p.2.2.2.1 (qsw M p k) p.2.2.2.2.2.1, qrm p.2.2.2.2.1 (qsw M p k) p.2.2.2.2.2.1, p.2.2.2.2.2.1 - 1, p.2.2.2.2.2.2)
def qsn_ (M : Int → Int → Int) (p : qQ) (k : Int) : Int := if qsw M p k = -1 then 0 else 1
def qsr (M : Int → Int → Int) (p : qQ) : Nat → qQ × Int
  | 0 => (p, 0)
  | k + 1 => (qsd M (qsr M p k).1 k, (qsr M p k).2 + qsn_ M (qsr M p k).1 k)
def qdq (p : qQ) : qQ := (p.1, p.2.1, p.2.2.1, p.2.2.2.1, p.2.2.2.2.1, p.2.2.2.2.2.1, p.2.2.2.2.2.2 + 1)
def qds (M : Int → Int → Int) (p : qQ) : Nat → qQ × Int
  | 0 => (p, 0)
  | d + 1 => ((qsr M (qdq (qds M p d).1) (M 37 65).toNat).1, (qds M p d).2 + (qsr M (qdq (qds M p d).1) (M 37 65).toNat).2)
/-- what is known of it -/
def qQk (M : Int → Int → Int) (p : qQ) : Prop := (0 ≤ p.2.2.2.2.2.1 ∧ p.2.2.2.2.2.1 ≤ 30) ∧ (∀ k, 0 ≤ k → k < p.2.2.2.2.2.1 → (0 ≤ p.2.2.2.1 k ∧ p.2.2.2.1 k < M 37 76) ∧ (0 ≤ p.2.2.2.2.1 k ∧ p.2.2.2.2.1 k < M 37 16)) ∧ (∀ i k, 0 ≤ i → i < k → k < p.2.2.2.2.2.1 → ¬ (p.2.2.2.1 i = p.2.2.2.1 k ∧ p.2.2.2.2.1 i = p.2.2.2.2.1 k)) ∧ (∀ k, 0 ≤ k → k < M 37 65 → (p.1 k = -1 ∧ p.2.1 k = -1) ∨ ((0 ≤ p.1 k ∧ p.1 k < M 37 76) ∧ (0 ≤ p.2.1 k ∧ p.2.1 k ≤ 1020))) ∧ (∀ k, ¬ (0 ≤ k ∧ k < M 37 65) → p.1 k = M 86 k ∧ p.2.1 k = M 87 k ∧ p.2.2.1 k = M 88 k) ∧ (0 ≤ p.2.2.2.2.2.2 ∧ p.2.2.2.2.2.2 ≤ 1000)
theorem qsw_r {M : Int → Int → Int} {p : qQ} {k : Int} (h : qQk M p) : -1 ≤ qsw M p k ∧ (qsw M p k ≠ -1 → qsw M p k < p.2.2.2.2.2.1 ∧ p.1 k = -1) := by
  have r := qwf_r_ M p (M 82 k) p.2.2.2.2.2.1.toNat
  have n := h.1
  unfold qsw
  split
  · next q => exact ⟨r.1, fun _ => ⟨by omega, q.1⟩⟩
  · exact ⟨Int.le_refl _, fun q => absurd rfl q⟩
def qsg_ (w n i : Int) : Int := if w ≤ i ∧ i < n - 1 then i + 1 else i
theorem qrm_s (a : Int → Int) (w n i : Int) : qrm a w n i = a (qsg_ w n i) := by
  unfold qrm qsg_
  by_cases c : w ≤ i ∧ i < n - 1
  · rw [if_pos c, if_pos c]
  · rw [if_neg c, if_neg c]
theorem qsg_r {w n i : Int} (h : 0 ≤ i ∧ i < n - 1) (hw : 0 ≤ w) : 0 ≤ qsg_ w n i ∧ qsg_ w n i < n := by
  unfold qsg_
  split <;> omega
theorem qsg_m {w n i k : Int} (h : i < k) (hk : k < n - 1) : qsg_ w n i < qsg_ w n k := by
  unfold qsg_
  split <;> split <;> omega
theorem qQk_d {M : Int → Int → Int} {p : qQ} {k : Int} (h : qQk M p) (hk : 0 ≤ k ∧ k < M 37 65) : qQk M (qsd M p k) := by
  have sr := qsw_r (k := k) h
  unfold qsd
  by_cases c : qsw M p k = -1
  · rw [if_pos c]; exact h
  rw [if_neg c]
  obtain ⟨w, hw⟩ : ∃ w, qsw M p k = w := ⟨_, rfl⟩
  rw [hw] at sr c ⊢
  obtain ⟨h1, h2, h3, h4, h5, h6⟩ := h
  obtain ⟨s1, s2⟩ := sr
  obtain ⟨s2, -⟩ := s2 c
  have w0 : 0 ≤ w := by omega
  refine ⟨⟨by show 0 ≤ p.2.2.2.2.2.1 - 1; omega, by show p.2.2.2.2.2.1 - 1 ≤ 30; omega⟩, fun i i1 i2 => ?_, fun i j i1 i2 j2 => ?_, fun i i1 i2 => ?_, fun i hi => ?_, h6⟩
  · have i2 : i < p.2.2.2.2.2.1 - 1 := i2
    show (0 ≤ qrm p.2.2.2.1 w p.2.2.2.2.2.1 i ∧ qrm p.2.2.2.1 w p.2.2.2.2.2.1 i < M 37 76) ∧ (0 ≤ qrm p.2.2.2.2.1 w p.2.2.2.2.2.1 i ∧ qrm p.2.2.2.2.1 w p.2.2.2.2.2.1 i < M 37 16)
    rw [qrm_s, qrm_s]
    have g := qsg_r (w := w) (n := p.2.2.2.2.2.1) ⟨i1, i2⟩ w0
    exact h2 _ g.1 g.2
  · have j2 : j < p.2.2.2.2.2.1 - 1 := j2
    show ¬ (qrm p.2.2.2.1 w p.2.2.2.2.2.1 i = qrm p.2.2.2.1 w p.2.2.2.2.2.1 j ∧ qrm p.2.2.2.2.1 w p.2.2.2.2.2.1 i = qrm p.2.2.2.2.1 w p.2.2.2.2.2.1 j)
    rw [qrm_s, qrm_s, qrm_s, qrm_s]
    have g := qsg_r (w := w) (n := p.2.2.2.2.2.1) (i := i) ⟨i1, by omega⟩ w0
    have g2 := qsg_r (w := w) (n := p.2.2.2.2.2.1) (i := j) ⟨by omega, j2⟩ w0
    exact h3 _ _ g.1 (qsg_m i2 j2) g2.2
  · show (qse p.1 k (p.2.2.2.1 w) i = -1 ∧ qse p.2.1 k (p.2.2.2.2.2.2 + 20) i = -1) ∨ ((0 ≤ qse p.1 k (p.2.2.2.1 w) i ∧ qse p.1 k (p.2.2.2.1 w) i < M 37 76) ∧ (0 ≤ qse p.2.1 k (p.2.2.2.2.2.2 + 20) i ∧ qse p.2.1 k (p.2.2.2.2.2.2 + 20) i ≤ 1020))
    unfold qse
    by_cases ck : i = k
    · rw [if_pos ck, if_pos ck]
      exact Or.inr ⟨(h2 w w0 s2).1, by clear h2 h3 h4 h5; omega⟩
    · rw [if_neg ck, if_neg ck]
      exact h4 i i1 i2
  · show qse p.1 k (p.2.2.2.1 w) i = _ ∧ qse p.2.1 k (p.2.2.2.2.2.2 + 20) i = _ ∧ qse p.2.2.1 k (z32 (p.2.2.1 k + 1)) i = _
    unfold qse
    rw [if_neg (by omega), if_neg (by omega), if_neg (by omega)]
    exact h5 i hi
theorem qsr_k {M : Int → Int → Int} {p : qQ} (h : qQk M p) : ∀ k : Nat, (k : Int) ≤ M 37 65 → qQk M (qsr M p k).1 ∧ 0 ≤ (qsr M p k).2 ∧ (qsr M p k).2 ≤ k ∧ (qsr M p k).1.2.2.2.2.2.2 = p.2.2.2.2.2.2 := by
  intro k
  induction k with
  | zero => intro _; exact ⟨h, Int.le_refl _, Int.le_refl _, rfl⟩
  | succ k ih =>
    intro hk
    obtain ⟨i1, i2, i3, i4⟩ := ih (by omega)
    have e : qsn_ M (qsr M p k).1 k = 0 ∨ qsn_ M (qsr M p k).1 k = 1 := by
      unfold qsn_
      split
      · exact Or.inl rfl
      · exact Or.inr rfl
    refine ⟨qQk_d i1 ⟨by omega, by omega⟩, ?_, ?_, ?_⟩
    · show 0 ≤ (qsr M p k).2 + qsn_ M (qsr M p k).1 k
      omega
    · show (qsr M p k).2 + qsn_ M (qsr M p k).1 k ≤ ((k + 1 : Nat) : Int)
      omega
    · show (qsd M (qsr M p k).1 k).2.2.2.2.2.2 = _
      unfold qsd
      split
      · exact i4
      · exact i4
theorem qds_k {M : Int → Int → Int} {p : qQ} (h : qQk M p) (h65 : 0 ≤ M 37 65 ∧ M 37 65 ≤ 20) : ∀ d : Nat, p.2.2.2.2.2.2 + d ≤ 1000 → qQk M (qds M p d).1 ∧ 0 ≤ (qds M p d).2 ∧ (qds M p d).2 ≤ 20 * d ∧ (qds M p d).1.2.2.2.2.2.2 = p.2.2.2.2.2.2 + d := by
  intro d
  induction d with
  | zero => intro _; exact ⟨h, Int.le_refl _, Int.le_refl _, by show p.2.2.2.2.2.2 = p.2.2.2.2.2.2 + 0; omega⟩
  | succ d ih =>
    intro hd
    obtain ⟨i1, i2, i3, i4⟩ := ih (by omega)
    have hq : qQk M (qdq (qds M p d).1) := by
      obtain ⟨a1, a2, a3, a4, a5, a6⟩ := i1
      exact ⟨a1, a2, a3, a4, a5, by show 0 ≤ (qds M p d).1.2.2.2.2.2.2 + 1 ∧ (qds M p d).1.2.2.2.2.2.2 + 1 ≤ 1000; omega⟩
    obtain ⟨j1, j2, j3, j4⟩ := qsr_k hq (M 37 65).toNat (by omega)
    refine ⟨j1, ?_, ?_, ?_⟩
    · show 0 ≤ (qds M p d).2 + (qsr M (qdq (qds M p d).1) (M 37 65).toNat).2
      omega
    · show (qds M p d).2 + (qsr M (qdq (qds M p d).1) (M 37 65).toNat).2 ≤ 20 * ((d + 1 : Nat) : Int)
      omega
    · show (qsr M (qdq (qds M p d).1) (M 37 65).toNat).1.2.2.2.2.2.2 = _
      rw [j4]
      show (qds M p d).1.2.2.2.2.2.2 + 1 = _
      omega
theorem qdq_k {M : Int → Int → Int} {p : qQ} (i1 : qQk M p) (h : p.2.2.2.2.2.2 + 1 ≤ 1000) : qQk M (qdq p) := by
  obtain ⟨a1, a2, a3, a4, a5, a6⟩ := i1
  exact ⟨a1, a2, a3, a4, a5, by show 0 ≤ p.2.2.2.2.2.2 + 1 ∧ p.2.2.2.2.2.2 + 1 ≤ 1000; omega⟩
