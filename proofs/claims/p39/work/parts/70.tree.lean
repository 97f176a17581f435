/-! Formulas as trees: how symbols are read. -/
abbrev qTree : Type := Std.Format
def qAt (z : Int) : qTree := Std.Format.nest z Std.Format.nil
def qOp (o : Nat) (l r : qTree) : qTree := Std.Format.tag o (Std.Format.append l r)
def qNl : qTree := Std.Format.nil
/-- the number that digits tell, behind a 1 -/
def qnv (y : Int → Int) (p : Int) : Nat → Int
  | 0 => 1
  | k + 1 => 10 * qnv y p k + (y (p + k) - 48)
/-- 0 a sum, 1 its end, 2 a product, 3 its end, 4 a power, 5 an atom: from a place to another one -/
def qPr (y : Int → Int) (fld : Int) : Nat → Nat → Int → Int → qTree → Int → qTree → Prop
  | 0, _, _, _, _, _, _ => False
  | f + 1, 0, dep, p, _, q, x => dep ≤ 40 ∧ ∃ q1 x1, qPr y fld f 2 dep p qNl q1 x1 ∧ qPr y fld f 1 dep q1 x1 q x
  | f + 1, 1, dep, p, l, q, x => (¬ (y p = 43 ∨ y p = 45) ∧ q = p ∧ x = l) ∨ ((y p = 43 ∨ y p = 45) ∧ ∃ q1 x1, qPr y fld f 2 dep (p + 1) qNl q1 x1 ∧ qPr y fld f 1 dep q1 (qOp (y p).toNat l x1) q x)
  | f + 1, 2, dep, p, _, q, x => ∃ q1 x1, qPr y fld f 4 dep p qNl q1 x1 ∧ qPr y fld f 3 dep q1 x1 q x
  | f + 1, 3, dep, p, l, q, x => (¬ (y p = 46 ∨ y p = 47 ∧ fld = 0) ∧ q = p ∧ x = l) ∨ ((y p = 46 ∨ y p = 47 ∧ fld = 0) ∧ ∃ q1 x1, qPr y fld f 4 dep (p + 1) qNl q1 x1 ∧ qPr y fld f 3 dep q1 (qOp (y p).toNat l x1) q x)
  | f + 1, 4, dep, p, _, q, x => dep ≤ 40 ∧ ∃ q1 x1, qPr y fld f 5 dep p qNl q1 x1 ∧
      ((fld = 0 ∧ y q1 = 94 ∧ ∃ x2, qPr y fld f 4 (dep + 1) (q1 + 1) qNl q x2 ∧ x = qOp 94 x1 x2) ∨
       (fld ≠ 0 ∧ y q1 = 123 ∧ ∃ q2 x2, qPr y fld f 0 (dep + 1) (q1 + 1) qNl q2 x2 ∧ y q2 = 125 ∧ q = q2 + 1 ∧ x = qOp 94 x1 x2) ∨
       (¬ (fld = 0 ∧ y q1 = 94) ∧ ¬ (fld ≠ 0 ∧ y q1 = 123) ∧ q = q1 ∧ x = x1))
  | f + 1, _, dep, p, _, q, x => (qsm (y p) ∧ q = p + 1 ∧ x = qAt (96 - y p)) ∨
      (y p = 40 ∧ ∃ q1, qPr y fld f 0 (dep + 1) (p + 1) qNl q1 x ∧ y q1 = 41 ∧ q = q1 + 1) ∨
      (y p = 91 ∧ ∃ q1 x1 q2 x2, qPr y fld f 0 (dep + 1) (p + 1) qNl q1 x1 ∧ y q1 = 47 ∧ qPr y fld f 0 (dep + 1) (q1 + 1) qNl q2 x2 ∧ y q2 = 93 ∧ q = q2 + 1 ∧ x = qOp 47 x1 x2) ∨
      ((qdg (y p) ∨ y p = 35) ∧ ∃ (k : Nat), 1 ≤ k ∧ k ≤ 4 ∧ (∀ j : Int, 0 ≤ j → j < k → qdg (y ((if y p = 35 then p + 1 else p) + j))) ∧ ¬ qdg (y ((if y p = 35 then p + 1 else p) + k)) ∧ q = (if y p = 35 then p + 1 else p) + k ∧ x = qAt (qnv y (if y p = 35 then p + 1 else p) k))
theorem qPr_m (y : Int → Int) (fld : Int) : ∀ (f md : Nat) (dep p : Int) (l : qTree) (q : Int) (x : qTree), qPr y fld f md dep p l q x → qPr y fld (f + 1) md dep p l q x := by
  intro f
  induction f with
  | zero => intro md dep p l q x h; exact absurd h id
  | succ f ih =>
    intro md dep p l q x h
    match md, h with
    | 0, h =>
      obtain ⟨h1, q1, x1, h2, h3⟩ := h
      exact ⟨h1, q1, x1, ih _ _ _ _ _ _ h2, ih _ _ _ _ _ _ h3⟩
    | 1, h =>
      rcases h with h | ⟨h1, q1, x1, h2, h3⟩
      · exact Or.inl h
      · exact Or.inr ⟨h1, q1, x1, ih _ _ _ _ _ _ h2, ih _ _ _ _ _ _ h3⟩
    | 2, h =>
      obtain ⟨q1, x1, h2, h3⟩ := h
      exact ⟨q1, x1, ih _ _ _ _ _ _ h2, ih _ _ _ _ _ _ h3⟩
    | 3, h =>
      rcases h with h | ⟨h1, q1, x1, h2, h3⟩
      · exact Or.inl h
      · exact Or.inr ⟨h1, q1, x1, ih _ _ _ _ _ _ h2, ih _ _ _ _ _ _ h3⟩
    | 4, h =>
      obtain ⟨h0, q1, x1, h2, h⟩ := h
      refine ⟨h0, q1, x1, ih _ _ _ _ _ _ h2, ?_⟩
      rcases h with ⟨h1, h3, x2, h4, h5⟩ | ⟨h1, h3, q2, x2, h4, h5⟩ | h
      · exact Or.inl ⟨h1, h3, x2, ih _ _ _ _ _ _ h4, h5⟩
      · exact Or.inr (Or.inl ⟨h1, h3, q2, x2, ih _ _ _ _ _ _ h4, h5⟩)
      · exact Or.inr (Or.inr h)
    | md + 5, h =>
      rcases h with h | ⟨h1, q1, h2, h3⟩ | ⟨h1, q1, x1, q2, x2, h2, h3, h4, h5⟩ | h
      · exact Or.inl h
      · exact Or.inr (Or.inl ⟨h1, q1, ih _ _ _ _ _ _ h2, h3⟩)
      · exact Or.inr (Or.inr (Or.inl ⟨h1, q1, x1, q2, x2, ih _ _ _ _ _ _ h2, h3, ih _ _ _ _ _ _ h4, h5⟩))
      · exact Or.inr (Or.inr (Or.inr h))
theorem qPr_l (y : Int → Int) (fld : Int) {md : Nat} {dep p : Int} {l : qTree} {q : Int} {x : qTree} (f : Nat) (h : qPr y fld f md dep p l q x) : ∀ g : Nat, qPr y fld (f + g) md dep p l q x := by
  intro g
  induction g with
  | zero => exact h
  | succ g ih => exact qPr_m _ _ _ _ _ _ _ _ _ ih
/-- with fuel enough -/
def qPx (y : Int → Int) (fld : Int) (md : Nat) (dep p : Int) (l : qTree) (q : Int) (x : qTree) : Prop := ∃ f, qPr y fld f md dep p l q x
theorem qPx_2 {y : Int → Int} {fld : Int} {md1 md2 : Nat} {d1 p1 d2 p2 : Int} {l1 l2 : qTree} {q1 q2 : Int} {x1 x2 : qTree} (h1 : qPx y fld md1 d1 p1 l1 q1 x1) (h2 : qPx y fld md2 d2 p2 l2 q2 x2) : ∃ f, qPr y fld f md1 d1 p1 l1 q1 x1 ∧ qPr y fld f md2 d2 p2 l2 q2 x2 := by
  obtain ⟨f, h1⟩ := h1
  obtain ⟨g, h2⟩ := h2
  refine ⟨f + g, qPr_l y fld f h1 g, ?_⟩
  rw [Nat.add_comm]
  exact qPr_l y fld g h2 f
theorem qPx_0 {y : Int → Int} {fld dep p q1 q : Int} {l x1 x : qTree} (hd : dep ≤ 40) (h1 : qPx y fld 2 dep p qNl q1 x1) (h2 : qPx y fld 1 dep q1 x1 q x) : qPx y fld 0 dep p l q x := by
  obtain ⟨f, a, b⟩ := qPx_2 h1 h2
  exact ⟨f + 1, hd, q1, x1, a, b⟩
theorem qPx_1e {y : Int → Int} {fld dep p : Int} {l : qTree} (h : ¬ (y p = 43 ∨ y p = 45)) : qPx y fld 1 dep p l p l := ⟨1, Or.inl ⟨h, rfl, rfl⟩⟩
theorem qPx_1s {y : Int → Int} {fld dep p q1 q : Int} {l x1 x : qTree} (h : y p = 43 ∨ y p = 45) (h1 : qPx y fld 2 dep (p + 1) qNl q1 x1) (h2 : qPx y fld 1 dep q1 (qOp (y p).toNat l x1) q x) : qPx y fld 1 dep p l q x := by
  obtain ⟨f, a, b⟩ := qPx_2 h1 h2
  exact ⟨f + 1, Or.inr ⟨h, q1, x1, a, b⟩⟩
theorem qPx_20 {y : Int → Int} {fld dep p q1 q : Int} {l x1 x : qTree} (h1 : qPx y fld 4 dep p qNl q1 x1) (h2 : qPx y fld 3 dep q1 x1 q x) : qPx y fld 2 dep p l q x := by
  obtain ⟨f, a, b⟩ := qPx_2 h1 h2
  exact ⟨f + 1, q1, x1, a, b⟩
theorem qPx_3e {y : Int → Int} {fld dep p : Int} {l : qTree} (h : ¬ (y p = 46 ∨ y p = 47 ∧ fld = 0)) : qPx y fld 3 dep p l p l := ⟨1, Or.inl ⟨h, rfl, rfl⟩⟩
theorem qPx_3s {y : Int → Int} {fld dep p q1 q : Int} {l x1 x : qTree} (h : y p = 46 ∨ y p = 47 ∧ fld = 0) (h1 : qPx y fld 4 dep (p + 1) qNl q1 x1) (h2 : qPx y fld 3 dep q1 (qOp (y p).toNat l x1) q x) : qPx y fld 3 dep p l q x := by
  obtain ⟨f, a, b⟩ := qPx_2 h1 h2
  exact ⟨f + 1, Or.inr ⟨h, q1, x1, a, b⟩⟩
theorem qPx_4p {y : Int → Int} {dep p q1 q : Int} {l x1 x2 : qTree} (hd : dep ≤ 40) (h1 : qPx y 0 5 dep p qNl q1 x1) (h : y q1 = 94) (h2 : qPx y 0 4 (dep + 1) (q1 + 1) qNl q x2) : qPx y 0 4 dep p l q (qOp 94 x1 x2) := by
  obtain ⟨f, a, b⟩ := qPx_2 h1 h2
  exact ⟨f + 1, hd, q1, x1, a, Or.inl ⟨rfl, h, x2, b, rfl⟩⟩
theorem qPx_4f {y : Int → Int} {fld dep p q1 q2 : Int} {l x1 x2 : qTree} (hd : dep ≤ 40) (hf : fld ≠ 0) (h1 : qPx y fld 5 dep p qNl q1 x1) (h : y q1 = 123) (h2 : qPx y fld 0 (dep + 1) (q1 + 1) qNl q2 x2) (h3 : y q2 = 125) : qPx y fld 4 dep p l (q2 + 1) (qOp 94 x1 x2) := by
  obtain ⟨f, a, b⟩ := qPx_2 h1 h2
  exact ⟨f + 1, hd, q1, x1, a, Or.inr (Or.inl ⟨hf, h, q2, x2, b, h3, rfl, rfl⟩)⟩
theorem qPx_4e {y : Int → Int} {fld dep p q : Int} {l x : qTree} (hd : dep ≤ 40) (h1 : qPx y fld 5 dep p qNl q x) (h2 : ¬ (fld = 0 ∧ y q = 94)) (h3 : ¬ (fld ≠ 0 ∧ y q = 123)) : qPx y fld 4 dep p l q x := by
  obtain ⟨f, a⟩ := h1
  exact ⟨f + 1, hd, q, x, a, Or.inr (Or.inr ⟨h2, h3, rfl, rfl⟩)⟩
theorem qPx_5l {y : Int → Int} {fld dep p : Int} {l : qTree} (h : qsm (y p)) : qPx y fld 5 dep p l (p + 1) (qAt (96 - y p)) := ⟨1, Or.inl ⟨h, rfl, rfl⟩⟩
theorem qPx_5b {y : Int → Int} {fld dep p q1 : Int} {l x : qTree} (h : y p = 40) (h1 : qPx y fld 0 (dep + 1) (p + 1) qNl q1 x) (h2 : y q1 = 41) : qPx y fld 5 dep p l (q1 + 1) x := by
  obtain ⟨f, a⟩ := h1
  exact ⟨f + 1, Or.inr (Or.inl ⟨h, q1, a, h2, rfl⟩)⟩
theorem qPx_5f {y : Int → Int} {fld dep p q1 q2 : Int} {l x1 x2 : qTree} (h : y p = 91) (h1 : qPx y fld 0 (dep + 1) (p + 1) qNl q1 x1) (h2 : y q1 = 47) (h3 : qPx y fld 0 (dep + 1) (q1 + 1) qNl q2 x2) (h4 : y q2 = 93) : qPx y fld 5 dep p l (q2 + 1) (qOp 47 x1 x2) := by
  obtain ⟨f, a, b⟩ := qPx_2 h1 h3
  exact ⟨f + 1, Or.inr (Or.inr (Or.inl ⟨h, q1, x1, q2, x2, a, h2, b, h4, rfl, rfl⟩))⟩
theorem qPx_5d {y : Int → Int} {fld dep p : Int} {l : qTree} (k : Nat) (h0 : 1 ≤ k ∧ k ≤ 4) (h : ∀ j : Int, 0 ≤ j → j < k → qdg (y (p + j))) (h1 : ¬ qdg (y (p + k))) : qPx y fld 5 dep p l (p + k) (qAt (qnv y p k)) := by
  have hp := h 0 (Int.le_refl 0) (by omega)
  rw [Int.add_zero] at hp
  have e : (if y p = 35 then p + 1 else p) = p := if_neg (by omega)
  exact ⟨1, Or.inr (Or.inr (Or.inr ⟨Or.inl hp, k, h0.1, h0.2, by rw [e]; exact h, by rw [e]; exact h1, by rw [e], by rw [e]⟩))⟩
theorem qPx_5n {y : Int → Int} {fld dep p : Int} {l : qTree} (k : Nat) (h0 : 1 ≤ k ∧ k ≤ 4) (hp : y p = 35) (h : ∀ j : Int, 0 ≤ j → j < k → qdg (y (p + 1 + j))) (h1 : ¬ qdg (y (p + 1 + k))) : qPx y fld 5 dep p l (p + 1 + k) (qAt (qnv y (p + 1) k)) := by
  have e : (if y p = 35 then p + 1 else p) = p + 1 := if_pos hp
  exact ⟨1, Or.inr (Or.inr (Or.inr ⟨Or.inr hp, k, h0.1, h0.2, by rw [e]; exact h, by rw [e]; exact h1, by rw [e], by rw [e]⟩))⟩
/-- nodes of a tree -/
def qsz : qTree → Nat
  | .tag _ (.append l r) => qsz l + qsz r + 1
  | _ => 1
theorem qsz_a (z : Int) : qsz (qAt z) = 1 := rfl
theorem qsz_o (o : Nat) (l r : qTree) : qsz (qOp o l r) = qsz l + qsz r + 1 := rfl
/-- the symbols of a row -/
def qsy (t : Int → Int) (n p : Int) : Int := if 0 ≤ p ∧ p < n then t p else 32
theorem qsy_i {t : Int → Int} {n p : Int} (h : 0 ≤ p ∧ p < n) : qsy t n p = t p := if_pos h
theorem qsy_n {t : Int → Int} {n p : Int} (h : ¬ (0 ≤ p ∧ p < n)) : qsy t n p = 32 := if_neg h
theorem qfo_o (t : Int → Int) (n : Int) : ∀ (f : Nat) (p o a g due : Int), 0 ≤ p → 0 ≤ n → (due = 0 ∨ due = 1) → qfo t n f p o a g due = -1 → o + due ≤ f := by
  intro f
  induction f with
  | zero =>
    intro p o a g due hp hn hd h
    rcases hd with rfl | rfl
    · by_cases c : 0 < o
      · rw [qfo_E2 c] at h; omega
      · omega
    · rw [qfo_E1] at h; omega
  | succ f ih =>
    intro p o a g due hp hn hd h
    rcases hd with rfl | rfl
    · by_cases c1 : qdg (t p) ∧ 0 < g ∧ g < 4
      · rw [qfo_B1 c1.1 c1.2] at h
        have := ih _ _ _ _ _ (by omega) hn (Or.inl rfl) h
        omega
      · by_cases c2 : t p = 41 ∧ 0 < o
        · rw [qfo_B2 c2.1 c2.2] at h
          have := ih _ _ _ _ _ (by omega) hn (Or.inl rfl) h
          omega
        · by_cases c3 : qjn (t p)
          · rw [qfo_B3 c3] at h
            have := ih _ _ _ _ _ (by omega) hn (Or.inr rfl) h
            omega
          · rw [qfo_B4 c1 c2 c3] at h
            omega
    · by_cases c1 : t p = 40
      · rw [qfo_A1 c1] at h
        have := ih _ _ _ _ _ (by omega) hn (Or.inr rfl) h
        omega
      · by_cases c2 : qdg (t p) ∧ a < 12
        · rw [qfo_A2 c2.1 c2.2] at h
          have := ih _ _ _ _ _ (by omega) hn (Or.inl rfl) h
          omega
        · by_cases c3 : qsm (t p) ∧ a < 12
          · rw [qfo_A3 c3.1 c3.2] at h
            have := ih _ _ _ _ _ (by omega) hn (Or.inl rfl) h
            omega
          · rw [qfo_A4 c1 (fun z => by
              rcases z.1 with q | q
              · exact c2 ⟨q, z.2⟩
              · exact c3 ⟨q, z.2⟩)] at h
            omega
/-- the tape from a place on is the rest of a formula -/
def qVd (t : Int → Int) (n p o a g due : Int) : Prop := qfo t n (n - p).toNat p o a g due = -1
theorem qVd_o {t : Int → Int} {n p o a g due : Int} (h : qVd t n p o a g due) (hp : 0 ≤ p ∧ p ≤ n) (hd : due = 0 ∨ due = 1) : o + due ≤ n - p := by
  have := qfo_o t n _ p o a g due hp.1 (by omega) hd h
  omega
/-- digits of a number, from its first on -/
theorem q_digits (t : Int → Int) (n o a first : Int) (h0 : 0 ≤ first) : ∀ (F : Nat) (k : Nat), 4 - k ≤ F → 1 ≤ k → k ≤ 4 → first + k ≤ n → (∀ j : Int, 0 ≤ j → j < k → qdg (t (first + j))) → qVd t n (first + k) o a k 0 →
    ∃ k' : Nat, 1 ≤ k' ∧ k' ≤ 4 ∧ first + k' ≤ n ∧ (∀ j : Int, 0 ≤ j → j < k' → qdg (t (first + j))) ∧ qVd t n (first + k') o a k' 0 ∧ (first + k' < n → ¬ qdg (t (first + k'))) := by
  intro F
  induction F with
  | zero =>
    intro k h1 h2 h3 h4 h5 h6
    refine ⟨k, h2, h3, h4, h5, h6, fun q1 q2 => ?_⟩
    unfold qVd at h6
    rw [show (n - (first + k)).toNat = (n - (first + k) - 1).toNat + 1 by omega, qfo_B4 (by omega) (by omega) (by omega)] at h6
    omega
  | succ F ih =>
    intro k h1 h2 h3 h4 h5 h6
    by_cases c : first + k < n ∧ qdg (t (first + k))
    · unfold qVd at h6
      rw [show (n - (first + k)).toNat = (n - (first + k) - 1).toNat + 1 by omega] at h6
      by_cases c4 : k = 4
      · rw [qfo_B4 (by omega) (by omega) (by omega)] at h6
        omega
      · rw [qfo_B1 c.2 (by omega)] at h6
        refine ih (k + 1) (by omega) (by omega) (by omega) (by omega) (fun j j1 j2 => ?_) ?_
        · by_cases q : j = k
          · rw [q]; exact c.2
          · exact h5 j j1 (by omega)
        · unfold qVd
          rw [show (n - (first + ((k + 1 : Nat) : Int))).toNat = (n - (first + k) - 1).toNat by omega, show first + ((k + 1 : Nat) : Int) = first + k + 1 by omega]
          exact h6
    · exact ⟨k, h2, h3, h4, h5, h6, fun q1 q2 => c ⟨q1, q2⟩⟩
