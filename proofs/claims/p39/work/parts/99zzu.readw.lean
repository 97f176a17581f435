/-! Felt cells are read as a word: the class. -/
def qDg (L : List Int) (bg en : Int) (K : List Int) : Prop := (K.length : Int) = en - bg ∧ ∀ i, 0 ≤ i → i < en - bg → qdo (qnth L (bg + i)) ≠ -1 ∧ qnth K i = qdo (qnth L (bg + i))
theorem s_readDigits (d : Nat) (S : zS) (w b c bg en sa sb mk con st dg bgs mk2 : Int) (L E : List Int) (h : 3 ≤ d) (hK : qK S) (hL : qLt (zm S)) (hk : qWk S w b c) (hp : qWp (zm S) w b c L mk con E) (hb : 0 ≤ bg ∧ bg ≤ en ∧ en ≤ L.length ∧ L.length ≤ 16) (hks : qSk S sa sb) (hs : qSq (zm S) sa sb [] st dg bgs mk2) :
    ∃ m' v, zD d 28 [vr w, vi bg, vi en, vr sa] S = some (.inl (some (vi v)), qW S m') ∧ qfs sa sb (zm S) m' ∧ ((v = 1 ∧ bg < en ∧ ∃ K, qDg L bg en K ∧ K.length ≤ 10 ∧ qSq m' sa sb K st 1 bgs mk2) ∨ (v = 0 ∧ (bg < en → ∀ K, qDg L bg en K → 10 < K.length))) := by
  obtain ⟨e, rfl, h1⟩ := qd h
  obtain ⟨k1, k2, k3, n1, n2, n3⟩ := hk
  have hk : qWk S w b c := ⟨k1, k2, k3, n1, n2, n3⟩
  obtain ⟨s1, s2⟩ := hks
  have hks : qSk S sa sb := ⟨s1, s2⟩
  have lp : ∀ (f : Nat) (m : Int → Int → Int) (acc : List Int) (y5 : zV), bg + acc.length + f = en → qfs sa sb (zm S) m → qSq m sa sb acc st 1 bgs mk2 → acc.length ≤ 10 → (∀ i, 0 ≤ i → i < (acc.length : Int) → qdo (qnth L (bg + i)) ≠ -1 ∧ qnth acc i = qdo (qnth L (bg + i))) →
      ∃ m' v, zF_28 e 8 [vr w, vi bg, vi en, vr sa, vi (bg + acc.length), y5] [] (qW S m) = some (.inl (some (vi v)), qW S m') ∧ qfs sa sb (zm S) m' ∧ ((v = 1 ∧ bg < en ∧ ∃ K, qDg L bg en K ∧ K.length ≤ 10 ∧ qSq m' sa sb K st 1 bgs mk2) ∨ (v = 0 ∧ (bg < en → ∀ K, qDg L bg en K → 10 < K.length))) := by
    intro f
    induction f with
    | zero =>
      intro m acc y5 h2 hf hs hc hv
      rw [b28_8]
      by_cases c1 : bg < en
      · refine ⟨m, 1, ?_, hf, Or.inl ⟨rfl, c1, acc, ⟨by omega, fun i i1 i2 => hv i i1 (by omega)⟩, hc, hs⟩⟩
        simp (config := { maxSteps := 2000000 }) (disch := first | omega | (simp only [qb_in, qkW, qmW, qnW, true_and, and_true, or_self, true_or, or_true, and_self]; done) | (simp only [qb_in, qkW, qmW, qnW, true_and, and_true, or_self, true_or, or_true, and_self]; omega)) only [b28_0, b28_14, b28_20, b28_23, b28_31, b28_37, b28_40, b28_42, b28_48, b28_53, b28_57, b28_58, qcall_l, qcall_r, qretn_l, qJ_s, qJ_n, qV0, qEx, ↓qif0, ↓zchk_pos, ↓reduceIte, qput, qWW, qmW, qkW, qnW, if_neg (show ¬ bg + (acc.length : Int) < en by omega), if_pos c1, Int.reduceLE, true_and, and_self]
      · refine ⟨m, 0, ?_, hf, Or.inr ⟨rfl, fun q => absurd q c1⟩⟩
        simp (config := { maxSteps := 2000000 }) (disch := first | omega | (simp only [qb_in, qkW, qmW, qnW, true_and, and_true, or_self, true_or, or_true, and_self]; done) | (simp only [qb_in, qkW, qmW, qnW, true_and, and_true, or_self, true_or, or_true, and_self]; omega)) only [b28_0, b28_14, b28_20, b28_23, b28_31, b28_37, b28_40, b28_42, b28_48, b28_53, b28_57, b28_58, qcall_l, qcall_r, qretn_l, qJ_s, qJ_n, qV0, qEx, ↓qif0, ↓zchk_pos, ↓reduceIte, qput, qWW, qmW, qkW, qnW, if_neg (show ¬ bg + (acc.length : Int) < en by omega), if_neg c1, Int.reduceLE, true_and, and_self]
    | succ f ih =>
      intro m acc y5 h2 hf hs hc hv
      have e1 : m w = zm S w := hf.1 w (qkne k1 s1 (by decide)) (qkne k1 s2 (by decide))
      have e2 : m b = zm S b := hf.1 b (qkne k2 s1 (by decide)) (qkne k2 s2 (by decide))
      have e3 : m c = zm S c := hf.1 c (qkne k3 s1 (by decide)) (qkne k3 s2 (by decide))
      have e4 : m 2 = zm S 2 := hf.1 2 (qkne (K_2 hK) s1 (by decide)) (qkne (K_2 hK) s2 (by decide))
      have hp' : qWp m w b c L mk con E := qWp_o hp e1 e2 e3
      have wc := s_wrCell e (qW S m) w b c mk con (bg + acc.length) L E (by omega) hk hp' (by omega)
      rw [if_pos (by omega)] at wc
      obtain ⟨x, hx⟩ : ∃ x, qnth L (bg + acc.length) = x := ⟨_, rfl⟩
      rw [hx] at wc
      have dv := s_digitOf e (qW S m) x (by omega) hK (fun q hq => by rw [qmW, e4]; exact hL q hq)
      obtain ⟨y, hy⟩ : ∃ y, qdo x = y := ⟨_, rfl⟩
      rw [hy] at dv
      rw [b28_8]
      by_cases q2 : y = -1
      · refine ⟨m, 0, ?_, hf, Or.inr ⟨rfl, fun _ K hK => ?_⟩⟩
        · simp (config := { maxSteps := 2000000 }) (disch := first | omega | (simp only [k1, s1, qb_in, qkW, qmW, qnW, true_and, and_true, or_self, true_or, or_true, and_self]; done) | (simp only [k1, s1, qb_in, qkW, qmW, qnW, true_and, and_true, or_self, true_or, or_true, and_self]; omega)) only [b28_0, b28_14, b28_20, b28_23, b28_31, b28_37, b28_40, b28_42, b28_48, b28_53, b28_57, b28_58, qcall_l, qcall_r, qretn_l, qJ_s, qJ_n, qV0, qEx, ↓qif0, ↓zchk_pos, ↓reduceIte, qput, qWW, qmW, qkW, qnW, k1, s1, if_pos (show bg + (acc.length : Int) < en by omega), wc, dv, if_pos q2, Int.reduceEq, Int.reduceLE, true_and, and_self]
        · have := (hK.2 acc.length (by omega) (by omega)).1
          rw [hx, hy] at this
          exact absurd q2 this
      · obtain ⟨m1, r1, p1, f1⟩ := s_sqAppend e (qW S m) sa sb y st 1 bgs mk2 acc (by omega) hks hs
        by_cases q3 : acc.length < 10
        · rw [if_pos q3] at r1
          have p1 := p1 q3
          have := ih m1 (acc ++ [y]) vu (by rw [List.length_append]; show bg + ((acc.length + 1 : Nat) : Int) + (f : Int) = en; omega) (qfs_t hf f1) p1 (by rw [List.length_append]; show acc.length + 1 ≤ 10; omega) (fun i i1 i2 => by
            rw [List.length_append] at i2
            have i2 : i < ((acc.length + 1 : Nat) : Int) := i2
            by_cases q : i < (acc.length : Int)
            · rw [qnth_l _ _ _ ⟨i1, q⟩]
              exact hv i i1 q
            · obtain rfl : i = acc.length := by omega
              rw [qnth_r _ _ _ (Int.le_refl _), Int.sub_self, hx, hy]
              exact ⟨q2, rfl⟩)
          rw [List.length_append, show (((acc.length + [y].length : Nat)) : Int) = (acc.length : Int) + 1 from rfl, ← Int.add_assoc] at this
          simp (config := { maxSteps := 2000000 }) (disch := first | omega | (simp only [k1, s1, qb_in, qkW, qmW, qnW, true_and, and_true, or_self, true_or, or_true, and_self]; done) | (simp only [k1, s1, qb_in, qkW, qmW, qnW, true_and, and_true, or_self, true_or, or_true, and_self]; omega)) only [b28_0, b28_14, b28_20, b28_23, b28_31, b28_37, b28_40, b28_42, b28_48, b28_53, b28_57, b28_58, qcall_l, qcall_r, qretn_l, qJ_s, qJ_n, qV0, qEx, ↓qif0, ↓zchk_pos, ↓reduceIte, qput, qWW, qmW, qkW, qnW, k1, s1, if_pos (show bg + (acc.length : Int) < en by omega), wc, dv, if_neg q2, r1, Int.reduceEq, q32]
          exact this
        · rw [if_neg q3] at r1
          refine ⟨m1, 0, ?_, qfs_t hf f1, Or.inr ⟨rfl, fun _ K hK => ?_⟩⟩
          · simp (config := { maxSteps := 2000000 }) (disch := first | omega | (simp only [k1, s1, qb_in, qkW, qmW, qnW, true_and, and_true, or_self, true_or, or_true, and_self]; done) | (simp only [k1, s1, qb_in, qkW, qmW, qnW, true_and, and_true, or_self, true_or, or_true, and_self]; omega)) only [b28_0, b28_14, b28_20, b28_23, b28_31, b28_37, b28_40, b28_42, b28_48, b28_53, b28_57, b28_58, qcall_l, qcall_r, qretn_l, qJ_s, qJ_n, qV0, qEx, ↓qif0, ↓zchk_pos, ↓reduceIte, qput, qWW, qmW, qkW, qnW, k1, s1, if_pos (show bg + (acc.length : Int) < en by omega), wc, dv, if_neg q2, r1, Int.reduceEq, Int.reduceLE, true_and, and_self]
          · have := hK.1
            omega
  have hs0 : qSq (qu (zm S) sa 3 1) sa sb [] st 1 bgs mk2 := by
    obtain ⟨p0, p1, p2, p3, p4, p5, p6⟩ := hs
    refine ⟨?_, ?_, ?_, qu_s _ _ _ _, ?_, ?_, qA_nil _ _⟩
    all_goals rw [qu_i _ _ _ _ _ (by decide)]
    all_goals assumption
  obtain ⟨m', v, r1, f1, p1⟩ := lp (en - bg).toNat (qu (zm S) sa 3 1) [] vu (by show bg + ((0 : Nat) : Int) + _ = en; omega) ⟨fun x h1 h2 => qu_o _ _ _ _ _ h1, qu_i _ _ _ _ _ (by decide)⟩ hs0 (by decide) (fun i i1 i2 => absurd i2 (by show ¬ i < ((0 : Nat) : Int); omega))
  rw [show bg + (([] : List Int).length : Int) = bg by show bg + ((0 : Nat) : Int) = bg; omega] at r1
  refine ⟨m', v, ?_, f1, p1⟩
  simp (config := { maxSteps := 2000000 }) (disch := first | omega | (simp only [s1, qb_in, qkW, qmW, qnW, true_and, and_true, or_self, true_or, or_true, and_self]; done) | (simp only [s1, qb_in, qkW, qmW, qnW, true_and, and_true, or_self, true_or, or_true, and_self]; omega)) only [zD_28, b28_0, b28_14, b28_20, b28_23, b28_31, b28_37, b28_40, b28_42, b28_48, b28_53, b28_57, b28_58, qcall_l, qcall_r, qretn_l, qJ_s, qJ_n, qV0, qEx, ↓qif0, ↓zchk_pos, ↓reduceIte, qput, qWW, qmW, qkW, qnW, s1, r1, Int.reduceLE, true_and, and_self]
/-- how felt cells are read -/
def qys (L : List Int) : Int := if qnth L 0 = 40 then 1 else 0
def qyg1 (L : List Int) (b : Int) : Int := if b < L.length ∧ qnth L b = 32 then 1 else 0
def qyg (L : List Int) : Int := if qyg1 L (qys L) = 1 then 1 + qyg1 L (qys L + 1) else 0
def qyb (L : List Int) : Int := qys L + qyg L
def qym (L : List Int) : Int := if 1 < (L.length : Int) - qyb L ∧ qmkc (qnth L (L.length - 1)) then 1 else 0
def qye (L : List Int) : Int := L.length - qym L
def qyh (L : List Int) : Int := if qyb L < L.length then qnth L (qyb L) else 0
def qyK (T : Int → Int → Int) (N g : Int) (L K : List Int) : Prop :=
  if qyh L = 60 then qyb L + 1 < qye L ∧ qDg L (qyb L + 1) (qye L) K
  else if qyh L = 48 then qyb L + 1 < qye L ∧ qrd T (fun j => qnth L (qyb L + 1 + j)) (qbr T N (-1) (fun j => qnth L (qyb L + 1 + j)) (qye L - (qyb L + 1))) (qye L - (qyb L + 1)) (qye L - (qyb L + 1)).toNat 0 [] = some K
  else qyb L < qye L ∧ qrd T (fun j => qnth L (qyb L + j)) (qbr T N g (fun j => qnth L (qyb L + j)) (qye L - qyb L)) (qye L - qyb L) (qye L - qyb L).toNat 0 [] = some K
theorem qys_r (L : List Int) : 0 ≤ qys L ∧ qys L ≤ 1 := by
  unfold qys
  split <;> decide
theorem qyg1_r (L : List Int) (b : Int) : (qyg1 L b = 0 ∧ ¬ (b < L.length ∧ qnth L b = 32)) ∨ (qyg1 L b = 1 ∧ b < L.length ∧ qnth L b = 32) := by
  unfold qyg1
  split
  · next h => exact Or.inr ⟨rfl, h⟩
  · next h => exact Or.inl ⟨rfl, h⟩
theorem qyg_r (L : List Int) (h : 0 < (L.length : Int)) : (0 ≤ qyg L ∧ qyg L ≤ 2) ∧ qys L + qyg L ≤ L.length := by
  have := qys_r L
  unfold qyg
  rcases qyg1_r L (qys L) with ⟨a, b⟩ | ⟨a, b, -⟩
  · rw [if_neg (by omega)]
    omega
  · rw [if_pos a]
    rcases qyg1_r L (qys L + 1) with ⟨a2, b2⟩ | ⟨a2, b2, -⟩ <;> omega
theorem qym_r (L : List Int) : (qym L = 1 ∧ 1 < (L.length : Int) - qyb L ∧ qmkc (qnth L (L.length - 1))) ∨ (qym L = 0 ∧ ¬ (1 < (L.length : Int) - qyb L ∧ qmkc (qnth L (L.length - 1)))) := by
  unfold qym
  split
  · next h => exact Or.inl ⟨rfl, h⟩
  · next h => exact Or.inr ⟨rfl, h⟩
