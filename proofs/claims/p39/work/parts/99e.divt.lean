/-! A divided word on the tape: its letters, its ends, as bits. -/
def qdvl (t : Int → Int) : Nat → Int
  | 0 => 0
  | i + 1 => qdvl t i + if t i = 32 then 0 else 1
def qdvb (t : Int → Int) : Nat → Int
  | 0 => 0
  | i + 1 => if t i = 32 then zor (qdvb t i) (zshl 1 (qdvl t i)) else qdvb t i
def qdve (t : Int → Int) : Nat → Int → Int
  | 0 => fun _ => 0
  | i + 1 => if t i = 32 then (fun j => if j = qcw t i - 1 then qdvl t i else qdve t i j) else qdve t i
def qdvw (t : Int → Int) : Nat → Int → Int
  | 0 => fun _ => 0
  | i + 1 => if t i = 32 then qdvw t i else (fun j => if j = qdvl t i then t i else qdvw t i j)
abbrev qdvc (c : Int) : Prop := qsm c ∨ c = 32
def qdvt (t : Int → Int) (n : Int) : Prop := ∀ i, 0 ≤ i → i < n → qdvc (t i)
def qdok (t : Int → Int) (n : Int) : Prop := (qtf t n = -1 ∧ 2 ≤ qcw t n.toNat ∧ qcw t n.toNat ≤ 4) ∧ qdvt t n ∧ qdvl t n.toNat ≤ 10
theorem qdvl_r (t : Int → Int) : ∀ i : Nat, 0 ≤ qdvl t i ∧ qdvl t i ≤ i := by
  intro i
  induction i with
  | zero => exact ⟨Int.le_refl 0, Int.le_refl 0⟩
  | succ i ih =>
    rw [qdvl]
    split <;> omega
theorem qdvl_u (t : Int → Int) (i : Nat) : ∀ f : Nat, qdvl t i ≤ qdvl t (i + f) ∧ qcw t i ≤ qcw t (i + f) := by
  intro f
  induction f with
  | zero => exact ⟨Int.le_refl _, Int.le_refl _⟩
  | succ f ih =>
    rw [show i + (f + 1) = i + f + 1 from rfl, qdvl, qcw]
    constructor
    · split <;> omega
    · split <;> omega
theorem qdvl_n (t : Int → Int) (n : Int) (h : qdvt t n) : ∀ i : Nat, (i : Int) ≤ n → qdvl t i = i - (qcw t i - 1) := by
  intro i
  induction i with
  | zero => intro _; rfl
  | succ i ih =>
    intro hi
    have h1 := ih (by omega)
    have h2 := h i (by omega) (by omega)
    rw [qdvl, qcw]
    by_cases c : t i = 32
    · rw [if_pos c, if_pos (Or.inl c)]; omega
    · rw [if_neg c, if_neg (by omega)]; omega
/-- what the ends so far are -/
def qdI (t : Int → Int) (i : Nat) (st : Int) : Prop := (∀ j, 0 ≤ j → j < qcw t i - 1 → (0 < qdve t i j ∧ qdve t i j ≤ qdvl t i) ∧ (st = 2 → qdve t i j < qdvl t i) ∧ qbt (qdvb t i) (qdve t i j) = 1) ∧
  (∀ j, 0 ≤ j → j + 1 < qcw t i - 1 → qdve t i j < qdve t i (j + 1)) ∧ (∀ p, 0 ≤ p → p < 32 → qbt (qdvb t i) p = 1 → ∃ j, 0 ≤ j ∧ j < qcw t i - 1 ∧ qdve t i j = p) ∧ (st = 2 → 0 < qdvl t i)
theorem qdI_n (t : Int → Int) (n : Int) (hn : 0 ≤ n) (h : qtf t n = -1) (ht : qdvt t n) (hl : qdvl t n.toNat ≤ 10) : ∀ i : Nat, (i : Int) ≤ n → ∃ st run, qfa t (n - i).toNat i st run = -1 ∧ (st = 0 ∨ st = 2) ∧ qdI t i st := by
  intro i
  induction i with
  | zero =>
    intro _
    refine ⟨0, 0, ?_, Or.inl rfl, fun j j1 j2 => ?_, fun j j1 j2 => ?_, fun p _ _ p3 => ?_, fun z => absurd z (by decide)⟩
    · rw [show (n - ((0 : Nat) : Int)).toNat = n.toNat by omega]
      exact h
    · have : j < (1 : Int) - 1 := j2
      omega
    · have : j + 1 < (1 : Int) - 1 := j2
      omega
    · have p3 : qbt 0 p = 1 := p3
      rw [qbt_0] at p3
      exact absurd p3 (by decide)
  | succ i ih =>
    intro hi
    obtain ⟨st, run, h1, h2, a, b, c, d⟩ := ih (by omega)
    have hc := ht i (by omega) (by omega)
    have hr := qdvl_r t i
    have hu := (qdvl_u t i (n.toNat - i)).1
    rw [show i + (n.toNat - i) = n.toNat by omega] at hu
    have hw := qcw_r t i
    rw [qfa_s t n i st run (by omega)] at h1
    by_cases e : t i = 32
    · have nx : qnx st run (qkd (t i)) = if st = 0 then -1 else 0 := by
        rcases h2 with h2 | h2
        · rw [h2, qnx0, if_pos rfl, e]; decide
        · rw [h2, qnx2, if_neg (by omega), if_neg (by omega), if_pos (Or.inl e)]; decide
      rcases h2 with h2 | h2
      · rw [h2, if_pos rfl] at nx
        rw [h2, nx, if_pos rfl] at h1
        omega
      · rw [h2, if_neg (by decide)] at nx
        rw [h2, nx, if_neg (by decide), if_pos (Or.inl rfl)] at h1
        refine ⟨0, 0, ?_, Or.inl rfl, fun j j1 j2 => ?_, fun j j1 j2 => ?_, fun p p1 p2 p3 => ?_, fun z => absurd z (by decide)⟩
        · rw [show ((i + 1 : Nat) : Int) = (i : Int) + 1 by omega]
          exact h1
        · rw [qcw, if_pos (Or.inl e)] at j2
          rw [qdve, if_pos e, qdvl, if_pos e, qdvb, if_pos e]
          have d0 := d h2
          by_cases q : j = qcw t i - 1
          · rw [if_pos q, qbt_or _ _ _ (by omega) (by omega), if_pos rfl]
            exact ⟨by omega, fun z => absurd z (by decide), rfl⟩
          · obtain ⟨a1, a2, a3⟩ := a j j1 (by omega)
            have a2 := a2 h2
            rw [if_neg q, qbt_or _ _ _ (by omega) (by omega), if_neg (by omega)]
            exact ⟨by omega, fun z => absurd z (by decide), a3⟩
        · rw [qcw, if_pos (Or.inl e)] at j2
          rw [qdve, if_pos e]
          show (if j = qcw t i - 1 then qdvl t i else qdve t i j) < (if j + 1 = qcw t i - 1 then qdvl t i else qdve t i (j + 1))
          rw [if_neg (show ¬ j = qcw t i - 1 by omega)]
          by_cases q : j + 1 = qcw t i - 1
          · rw [if_pos q]
            exact (a j j1 (by omega)).2.1 h2
          · rw [if_neg q]
            exact b j j1 (by omega)
        · rw [qdvb, if_pos e, qbt_or _ _ _ (by omega) (by omega)] at p3
          rw [qcw, if_pos (Or.inl e), qdve, if_pos e]
          by_cases q : p = qdvl t i
          · exact ⟨qcw t i - 1, by omega, by omega, by rw [q]; exact if_pos rfl⟩
          · rw [if_neg q] at p3
            obtain ⟨j, j1, j2, j3⟩ := c p p1 p2 p3
            exact ⟨j, j1, by omega, by rw [← j3]; exact if_neg (by omega)⟩
    · have hs : qsm (t i) := hc.resolve_right e
      have nx : qnx st run (qkd (t i)) = 2 ∨ qnx st run (qkd (t i)) = -1 := by
        rcases h2 with h2 | h2
        · rw [h2, qnx0, if_neg (by omega), if_pos hs]
          exact Or.inl rfl
        · rw [h2, qnx2]
          by_cases q : qsm (t i) ∧ run < 10
          · rw [if_pos q]; exact Or.inl rfl
          · rw [if_neg q, if_neg (by omega), if_neg (by omega)]; exact Or.inr rfl
      rcases nx with nx | nx
      · rw [nx, if_neg (by decide), if_neg (by decide)] at h1
        refine ⟨2, run + 1, ?_, Or.inr rfl, fun j j1 j2 => ?_, fun j j1 j2 => ?_, fun p p1 p2 p3 => ?_, fun _ => ?_⟩
        · rw [show ((i + 1 : Nat) : Int) = (i : Int) + 1 by omega]
          exact h1
        · rw [qcw, if_neg (by omega)] at j2
          rw [qdve, if_neg e, qdvl, if_neg e, qdvb, if_neg e]
          obtain ⟨a1, a2, a3⟩ := a j j1 (by omega)
          exact ⟨by omega, fun _ => by omega, a3⟩
        · rw [qcw, if_neg (by omega)] at j2
          rw [qdve, if_neg e]
          exact b j j1 (by omega)
        · rw [qdvb, if_neg e] at p3
          rw [qcw, if_neg (by omega), qdve, if_neg e]
          obtain ⟨j, j1, j2, j3⟩ := c p p1 p2 p3
          exact ⟨j, j1, by omega, j3⟩
        · rw [qdvl, if_neg e]; omega
      · rw [nx, if_pos rfl] at h1
        omega
/-- all ends, and the bits of all -/
def qdE (t : Int → Int) (n : Int) (j : Int) : Int := if j = qcw t n.toNat - 1 then qdvl t n.toNat else qdve t n.toNat j
def qdB (t : Int → Int) (n : Int) : Int := zor (qdvb t n.toNat) (zshl 1 (qdvl t n.toNat))
theorem qdv (t : Int → Int) (n : Int) (hn : 0 ≤ n) (h : qdok t n) :
    (∀ j, 0 ≤ j → j < qcw t n.toNat → 0 < qdE t n j ∧ qdE t n j ≤ qdvl t n.toNat ∧ qbt (qdB t n) (qdE t n j) = 1) ∧ (∀ j, 0 ≤ j → j + 1 < qcw t n.toNat → qdE t n j < qdE t n (j + 1)) ∧ qdE t n (qcw t n.toNat - 1) = qdvl t n.toNat ∧ (∀ p, 0 ≤ p → p < qdvl t n.toNat → qbt (qdB t n) p = 1 → ∃ j, 0 ≤ j ∧ j < qcw t n.toNat ∧ qdE t n j = p) ∧ 0 < qdvl t n.toNat := by
  obtain ⟨⟨h1, h2, h3⟩, h4, h5⟩ := h
  obtain ⟨st, run, s1, s2, a, b, c, d⟩ := qdI_n t n hn h1 h4 h5 n.toNat (by omega)
  have st2 : st = 2 := by
    rcases s2 with s2 | s2
    · rw [show (n - (n.toNat : Int)).toNat = 0 by omega, s2] at s1
      have s1 : (n.toNat : Int) = -1 := s1
      omega
    · exact s2
  have d := d st2
  have hr := qdvl_r t n.toNat
  refine ⟨fun j j1 j2 => ?_, fun j j1 j2 => ?_, if_pos rfl, fun p p1 p2 p3 => ?_, d⟩
  · unfold qdE qdB
    by_cases q : j = qcw t n.toNat - 1
    · rw [if_pos q, qbt_or _ _ _ (by omega) (by omega), if_pos rfl]
      exact ⟨d, Int.le_refl _, rfl⟩
    · obtain ⟨a1, a2, a3⟩ := a j j1 (by omega)
      have a2 := a2 st2
      rw [if_neg q, qbt_or _ _ _ (by omega) (by omega), if_neg (by omega)]
      exact ⟨a1.1, a1.2, a3⟩
  · unfold qdE
    rw [if_neg (show ¬ j = qcw t n.toNat - 1 by omega)]
    by_cases q : j + 1 = qcw t n.toNat - 1
    · rw [if_pos q]
      exact (a j j1 (by omega)).2.1 st2
    · rw [if_neg q]
      exact b j j1 (by omega)
  · unfold qdB at p3
    rw [qbt_or _ _ _ (by omega) (by omega), if_neg (by omega)] at p3
    obtain ⟨j, j1, j2, j3⟩ := c p p1 (by omega) p3
    exact ⟨j, j1, by omega, by unfold qdE; rw [if_neg (by omega)]; exact j3⟩
theorem qpl_E (P n : Int) (E : Int → Int) (q : Nat) (hE : ∀ j : Int, 0 ≤ j → j < (q : Int) → 0 < E j ∧ E j ≤ n ∧ qbt P (E j) = 1) (hm : ∀ j : Int, 0 ≤ j → j + 1 < (q : Int) → E j < E (j + 1)) (hl : E ((q : Int) - 1) = n) (hp : ∀ p, 0 ≤ p → p < n → qbt P p = 1 → ∃ j, 0 ≤ j ∧ j < (q : Int) ∧ E j = p) : ∀ k : Nat, k < q → (qpl P n (E k).toNat).length = k + 1 := by
  have mono : ∀ (f : Nat) (j : Int), 0 ≤ j → j + f < (q : Int) → E j ≤ E (j + f) := by
    intro f
    induction f with
    | zero =>
      intro j _ _
      rw [show j + ((0 : Nat) : Int) = j by omega]
      exact Int.le_refl _
    | succ f ih =>
      intro j j1 j2
      have h1 := ih j j1 (by omega)
      have h2 := hm (j + f) (by omega) (by omega)
      rw [show j + ((f + 1 : Nat) : Int) = j + f + 1 by omega]
      omega
  have lt : ∀ i j : Int, 0 ≤ i → i < j → j < (q : Int) → E i < E j := fun i j i1 i2 j2 => by
    have h1 := mono (j - 1 - i).toNat i i1 (by omega)
    rw [show i + ((j - 1 - i).toNat : Int) = j - 1 by omega] at h1
    have h2 := hm (j - 1) (by omega) (by omega)
    rw [show j - 1 + 1 = j by omega] at h2
    omega
  intro k
  induction k with
  | zero =>
    intro hk
    have h0 := hE 0 (Int.le_refl 0) (by omega)
    show (qpl P n (E 0).toNat).length = 0 + 1
    rw [qpl_j P n 0 (E 0) (by omega) (fun i i1 i2 => ⟨(qbt_r P i).resolve_right fun z => ?_, by omega⟩), if_pos (Or.inl h0.2.2)]
    · rfl
    · obtain ⟨j, j1, j2, j3⟩ := hp i (by omega) (by omega) z
      have := mono j.toNat 0 (Int.le_refl 0) (by omega)
      rw [show 0 + (j.toNat : Int) = j by omega] at this
      omega
  | succ k ih =>
    intro hk
    have h1 := hE k (by omega) (by omega)
    have h2 := hE (k + 1) (by omega) (by omega)
    have h3 := hm k (by omega) (by omega)
    have ih := ih (by omega)
    show (qpl P n (E ((k : Int) + 1)).toNat).length = k + 1 + 1
    rw [qpl_j P n (E k) (E ((k : Int) + 1)) (by omega) (fun i i1 i2 => ⟨(qbt_r P i).resolve_right fun z => ?_, by omega⟩), if_pos (Or.inl h2.2.2), List.length_append, ih]
    · rfl
    · obtain ⟨j, j1, j2, j3⟩ := hp i (by omega) (by omega) z
      by_cases q1 : j ≤ k
      · by_cases q2 : j = k
        · rw [q2] at j3; omega
        · have := lt j k j1 (by omega) (by omega); omega
      · by_cases q2 : j = k + 1
        · rw [q2] at j3; omega
        · have := lt (k + 1) j (by omega) (by omega) j2; omega
