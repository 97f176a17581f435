/-! Rows as lists; what a Writing holds. -/
def qA (m : Int → Int → Int) (b : Int) (L : List Int) : Prop := ∀ (i : Nat) (v : Int), L[i]? = some v → m b (i : Int) = v
theorem qA_nil (m : Int → Int → Int) (b : Int) : qA m b [] := fun i v h => by simp at h
theorem qA_o {m m' : Int → Int → Int} {b : Int} {L : List Int} (h : qA m b L) (e : m' b = m b) : qA m' b L := fun i v g => by rw [e]; exact h i v g
theorem qA_u {m : Int → Int → Int} {b : Int} {L : List Int} (h : qA m b L) (a j v : Int) (e : a ≠ b ∨ (L.length : Int) ≤ j) : qA (qu m a j v) b L := fun i u g => by
  have hi : i < L.length := by
    by_cases q : i < L.length
    · exact q
    · rw [List.getElem?_eq_none (by omega)] at g
      exact absurd g (by simp)
  rcases e with e | e
  · rw [qu_o _ _ _ _ _ (Ne.symm e)]
    exact h i u g
  · by_cases q : a = b
    · subst q
      rw [qu_i _ _ _ _ _ (by omega)]
      exact h i u g
    · rw [qu_o _ _ _ _ _ (Ne.symm q)]
      exact h i u g
theorem qA_p {m : Int → Int → Int} {b : Int} {L : List Int} {v : Int} (h : qA m b L) (e : m b (L.length : Int) = v) : qA m b (L ++ [v]) := fun i u g => by
  rw [List.getElem?_append] at g
  split at g
  · exact h i u g
  · rename_i h1
    have h2 : i = L.length := by
      by_cases q : i - L.length = 0
      · omega
      · rw [List.getElem?_eq_none (by simp only [List.length_cons, List.length_nil]; omega)] at g
        exact absurd g (by simp)
    subst h2
    rw [Nat.sub_self] at g
    have h3 : v = u := by simpa using g
    rw [← h3]
    exact e
theorem qA_push {m : Int → Int → Int} {b : Int} {L : List Int} (h : qA m b L) (v : Int) : qA (qu m b (L.length : Int) v) b (L ++ [v]) := qA_p (qA_u h b _ v (Or.inr (Int.le_refl _))) (qu_s _ _ _ _)
theorem qA_l {m : Int → Int → Int} {b : Int} {L K : List Int} (h : qA m b (L ++ K)) : qA m b L := fun i v g => h i v (by
  rw [List.getElem?_append]
  split
  · exact g
  · rename_i q
    rw [List.getElem?_eq_none (by omega)] at g
    exact absurd g (by simp))
def qnth (L : List Int) (i : Int) : Int := L.getD i.toNat 0
theorem qA_n {m : Int → Int → Int} {b : Int} {L : List Int} (h : qA m b L) (i : Int) (h0 : 0 ≤ i) (h1 : i < (L.length : Int)) : m b i = qnth L i := by
  have e : L[i.toNat]? = some (qnth L i) := by
    unfold qnth
    rw [List.getD_eq_getElem?_getD, List.getElem?_eq_getElem (by omega)]
    rfl
  have := h i.toNat _ e
  rw [show ((i.toNat : Nat) : Int) = i by omega] at this
  exact this
theorem qA_f {m : Int → Int → Int} {b : Int} {L : List Int} (h : ∀ i : Int, 0 ≤ i → i < (L.length : Int) → m b i = qnth L i) : qA m b L := fun i v g => by
  have hi : i < L.length := by
    by_cases q : i < L.length
    · exact q
    · rw [List.getElem?_eq_none (by omega)] at g
      exact absurd g (by simp)
  rw [h i (by omega) (by omega)]
  unfold qnth
  rw [List.getD_eq_getElem?_getD, show ((i : Int)).toNat = i by omega, g]
  rfl
theorem qnth_l (L K : List Int) (i : Int) (h : 0 ≤ i ∧ i < (L.length : Int)) : qnth (L ++ K) i = qnth L i := by
  unfold qnth
  rw [List.getD_eq_getElem?_getD, List.getD_eq_getElem?_getD, List.getElem?_append_left (by omega)]
theorem qnth_r (L K : List Int) (i : Int) (h : (L.length : Int) ≤ i) : qnth (L ++ K) i = qnth K (i - L.length) := by
  unfold qnth
  rw [List.getD_eq_getElem?_getD, List.getD_eq_getElem?_getD, List.getElem?_append_right (by omega)]
  congr 2
  omega
def qWp (m : Int → Int → Int) (w b c : Int) (L : List Int) (mk con : Int) (E : List Int) : Prop := m w 0 = b ∧ m w 4 = c ∧ m w 1 = L.length ∧ m w 2 = mk ∧ m w 3 = con ∧ m w 5 = E.length ∧ qA m b L ∧ qA m c E
def qWk (T : zS) (w b c : Int) : Prop := zk T w = (31, 0) ∧ zk T b = (0, 16) ∧ zk T c = (0, 4) ∧ w ≠ b ∧ w ≠ c ∧ b ≠ c
def qfw (w b c : Int) (m m' : Int → Int → Int) : Prop := ∀ x, x ≠ w → x ≠ b → x ≠ c → m' x = m x
theorem qfw_r (w b c : Int) (m : Int → Int → Int) : qfw w b c m m := fun _ _ _ _ => rfl
theorem qfw_t {w b c : Int} {m m1 m2 : Int → Int → Int} (h : qfw w b c m m1) (g : qfw w b c m1 m2) : qfw w b c m m2 := fun x h1 h2 h3 => (g x h1 h2 h3).trans (h x h1 h2 h3)
theorem qfw_u {w b c : Int} (m : Int → Int → Int) (a j v : Int) (h : a = w ∨ a = b ∨ a = c) : qfw w b c m (qu m a j v) := fun x h1 h2 h3 => qu_o _ _ _ _ _ (by rcases h with h | h | h <;> rw [h] <;> assumption)
theorem qWp_o {m m' : Int → Int → Int} {w b c mk con : Int} {L E : List Int} (h : qWp m w b c L mk con E) (h1 : m' w = m w) (h2 : m' b = m b) (h3 : m' c = m c) : qWp m' w b c L mk con E := by
  obtain ⟨a1, a2, a3, a4, a5, a6, a7, a8⟩ := h
  exact ⟨by rw [h1, a1], by rw [h1, a2], by rw [h1, a3], by rw [h1, a4], by rw [h1, a5], by rw [h1, a6], qA_o a7 h2, qA_o a8 h3⟩
theorem s_wrClear (d : Nat) (T : zS) (w b c : Int) (L E : List Int) (h : 1 ≤ d) (hk : qWk T w b c) (p0 : zm T w 0 = b) (p4 : zm T w 4 = c) :
    ∃ m', zD d 108 [vr w] T = some (.inl none, qW T m') ∧ qWp m' w b c [] 0 0 [] ∧ qfw w b c (zm T) m' := by
  obtain ⟨e, rfl, -⟩ := qd h
  obtain ⟨k1, -⟩ := hk
  refine ⟨qu (qu (qu (qu (zm T) w 1 0) w 2 0) w 3 0) w 5 0, ?_, ⟨?_, ?_, ?_, ?_, ?_, ?_, qA_nil _ _, qA_nil _ _⟩, ?_⟩
  · simp (config := { maxSteps := 2000000 }) (disch := first | omega | (simp only [k1, qb_in, qkW, qmW, qnW, true_and, and_true, or_self, true_or, or_true, and_self]; done) | (simp only [k1, qb_in, qkW, qmW, qnW, true_and, and_true, or_self, true_or, or_true, and_self]; omega)) only [zD_108, b108_0, b108_16, qcall_l, qcall_r, qretn_l, qJ_s, qJ_n, qV0, qEx, ↓qif0, ↓zchk_pos, ↓reduceIte, qput, qWW, qmW, qkW, qnW, k1]
  all_goals try simp only [qu1, ↓reduceIte, Int.reduceEq, p0, p4, List.length_nil]
  · rfl
  · rfl
  · intro x h1 h2 h3
    simp only [qu_o _ _ _ _ _ h1]
theorem s_wrAppend (d : Nat) (T : zS) (w b c mk con v : Int) (L E : List Int) (h : 1 ≤ d) (hk : qWk T w b c) (hp : qWp (zm T) w b c L mk con E) (hl : L.length < 16) :
    ∃ m', zD d 109 [vr w, vi v] T = some (.inl none, qW T m') ∧ qWp m' w b c (L ++ [v]) mk con E ∧ qfw w b c (zm T) m' := by
  obtain ⟨e, rfl, -⟩ := qd h
  obtain ⟨k1, k2, k3, n1, n2, n3⟩ := hk
  obtain ⟨a1, a2, a3, a4, a5, a6, a7, a8⟩ := hp
  have e1 : qu (zm T) b L.length v w = zm T w := qu_o _ _ _ _ _ n1
  refine ⟨qu (qu (zm T) b L.length v) w 1 (L.length + 1), ?_, ⟨?_, ?_, ?_, ?_, ?_, ?_, ?_, ?_⟩, ?_⟩
  · simp (config := { maxSteps := 2000000 }) (disch := first | omega | (simp only [k1, k2, a1, a3, e1, qb_in, qkW, qmW, qnW, true_and, and_true, or_self, true_or, or_true, and_self]; done) | (simp only [k1, k2, a1, a3, e1, qb_in, qkW, qmW, qnW, true_and, and_true, or_self, true_or, or_true, and_self]; omega)) only [zD_109, b109_0, b109_9, b109_25, b109_29, qcall_l, qcall_r, qretn_l, qJ_s, qJ_n, qV0, qEx, ↓qif0, ↓zchk_pos, ↓reduceIte, qput, qWW, qmW, qkW, qnW, k1, k2, a1, a3, e1, q32, if_pos (show (L.length : Int) < 16 by omega)]
  · rw [qu_i _ _ _ _ _ (by decide), e1, a1]
  · rw [qu_i _ _ _ _ _ (by decide), e1, a2]
  · rw [qu_s, List.length_append]; rfl
  · rw [qu_i _ _ _ _ _ (by decide), e1, a4]
  · rw [qu_i _ _ _ _ _ (by decide), e1, a5]
  · rw [qu_i _ _ _ _ _ (by decide), e1, a6]
  · exact qA_o (qA_push a7 v) (qu_o _ _ _ _ _ (Ne.symm n1))
  · exact qA_o (qA_o a8 (qu_o _ _ _ _ _ (Ne.symm n3))) (qu_o _ _ _ _ _ (Ne.symm n2))
  · exact qfw_t (qfw_u _ _ _ _ (by simp)) (qfw_u _ _ _ _ (by simp))
theorem s_wrEndPart (d : Nat) (T : zS) (w b c mk con : Int) (L E : List Int) (h : 1 ≤ d) (hk : qWk T w b c) (hp : qWp (zm T) w b c L mk con E) (hl : E.length < 4) :
    ∃ m', zD d 110 [vr w] T = some (.inl none, qW T m') ∧ qWp m' w b c L mk con (E ++ [(L.length : Int)]) ∧ qfw w b c (zm T) m' := by
  obtain ⟨e, rfl, -⟩ := qd h
  obtain ⟨k1, k2, k3, n1, n2, n3⟩ := hk
  obtain ⟨a1, a2, a3, a4, a5, a6, a7, a8⟩ := hp
  have e1 : qu (zm T) c E.length L.length w = zm T w := qu_o _ _ _ _ _ n2
  refine ⟨qu (qu (zm T) c E.length L.length) w 5 (E.length + 1), ?_, ⟨?_, ?_, ?_, ?_, ?_, ?_, ?_, ?_⟩, ?_⟩
  · simp (config := { maxSteps := 2000000 }) (disch := first | omega | (simp only [k1, k3, a2, a3, a6, e1, qb_in, qkW, qmW, qnW, true_and, and_true, or_self, true_or, or_true, and_self]; done) | (simp only [k1, k3, a2, a3, a6, e1, qb_in, qkW, qmW, qnW, true_and, and_true, or_self, true_or, or_true, and_self]; omega)) only [zD_110, b110_0, b110_12, b110_30, b110_35, qcall_l, qcall_r, qretn_l, qJ_s, qJ_n, qV0, qEx, ↓qif0, ↓zchk_pos, ↓reduceIte, qput, qWW, qmW, qkW, qnW, k1, k3, a2, a3, a6, e1, q32, if_pos (show (E.length : Int) < 4 by omega)]
  · rw [qu_i _ _ _ _ _ (by decide), e1, a1]
  · rw [qu_i _ _ _ _ _ (by decide), e1, a2]
  · rw [qu_i _ _ _ _ _ (by decide), e1, a3]
  · rw [qu_i _ _ _ _ _ (by decide), e1, a4]
  · rw [qu_i _ _ _ _ _ (by decide), e1, a5]
  · rw [qu_s, List.length_append]; rfl
  · exact qA_o (qA_o a7 (qu_o _ _ _ _ _ n3)) (qu_o _ _ _ _ _ (Ne.symm n1))
  · exact qA_o (qA_push a8 _) (qu_o _ _ _ _ _ (Ne.symm n2))
  · exact qfw_t (qfw_u _ _ _ _ (by simp)) (qfw_u _ _ _ _ (by simp))
theorem s_wrMarkFrom (d : Nat) (T : zS) (w b c mk con bg : Int) (L K E : List Int) (h : 2 ≤ d) (hk : qWk T w b c) (hp : qWp (zm T) w b c (L ++ K) mk con E) (hl : (L.length : Int) = bg ∧ bg < 16) :
    ∃ m', zD d 111 [vr w, vi bg] T = some (.inl none, qW T m') ∧ qWp m' w b c (L ++ [48]) 1 0 [] ∧ qfw w b c (zm T) m' := by
  obtain ⟨e, rfl, h1⟩ := qd h
  have hk0 := hk
  obtain ⟨k1, k2, k3, n1, n2, n3⟩ := hk
  obtain ⟨a1, a2, a3, a4, a5, a6, a7, a8⟩ := hp
  obtain ⟨rfl, h2⟩ := hl
  have e0 : (if (L.length : Int) < ((L ++ K).length : Int) then (L.length : Int) else ((L ++ K).length : Int)) = L.length := by
    rw [List.length_append]
    split <;> omega
  have e2 : (if (0 : Int) < (L.length : Int) then (L.length : Int) else 0) = L.length := by
    split <;> omega
  obtain ⟨m1, r1, p1, f1⟩ := s_wrAppend e (qW T (qu (qu (qu (qu (zm T) w 1 L.length) w 3 0) w 5 0) w 2 1)) w b c 1 0 48 L [] h1 hk0 (by
    refine ⟨?_, ?_, ?_, ?_, ?_, ?_, ?_, qA_nil _ _⟩
    all_goals try simp only [qmW, qu1, ↓reduceIte, Int.reduceEq, a1, a2, List.length_nil]
    · rfl
    · exact qA_o (qA_l a7) (by simp only [qmW, qu_o _ _ _ _ _ (Ne.symm n1)])) (by omega)
  refine ⟨m1, ?_, p1, qfw_t ?_ f1⟩
  · simp (config := { maxSteps := 2000000 }) (disch := first | omega | (simp only [k1, qb_in, qkW, qmW, qnW, true_and, and_true, or_self, true_or, or_true, and_self]; done) | (simp only [k1, qb_in, qkW, qmW, qnW, true_and, and_true, or_self, true_or, or_true, and_self]; omega)) only [zD_111, b111_0, b111_18, b111_37, qcall_l, qcall_r, qretn_l, qJ_s, qJ_n, qV0, qEx, ↓qif0, ↓zchk_pos, ↓reduceIte, qput, qWW, qmW, qkW, qnW, k1, a3, e0, e2, r1, Int.reduceEq, true_and, and_self]
  · intro x h3 h4 h5
    simp only [qmW, qu_o _ _ _ _ _ h3]
theorem s_wrCell (d : Nat) (T : zS) (w b c mk con i : Int) (L E : List Int) (h : 1 ≤ d) (hk : qWk T w b c) (hp : qWp (zm T) w b c L mk con E) (hl : L.length ≤ 16) :
    zD d 112 [vr w, vi i] T = some (.inl (some (vi (if 0 ≤ i ∧ i < (L.length : Int) then qnth L i else -1))), T) := by
  obtain ⟨e, rfl, -⟩ := qd h
  obtain ⟨k1, k2, k3, n1, n2, n3⟩ := hk
  obtain ⟨a1, a2, a3, a4, a5, a6, a7, a8⟩ := hp
  by_cases h1 : i < 0
  · rw [if_neg (show ¬ (0 ≤ i ∧ i < (L.length : Int)) by omega)]
    simp (config := { maxSteps := 2000000 }) (disch := first | omega | (simp only [k1, qb_in, qkW, qmW, qnW, true_and, and_true, or_self, true_or, or_true, and_self]; done) | (simp only [k1, qb_in, qkW, qmW, qnW, true_and, and_true, or_self, true_or, or_true, and_self]; omega)) only [zD_112, b112_0, b112_4, b112_12, b112_21, b112_22, qcall_l, qcall_r, qretn_l, qJ_s, qJ_n, qV0, qEx, ↓qif0, ↓zchk_pos, ↓reduceIte, qput, qWW, qmW, qkW, qnW, k1, if_pos h1]
  · by_cases h2 : i < (L.length : Int)
    · rw [if_pos (show 0 ≤ i ∧ i < (L.length : Int) by omega), ← qA_n a7 i (by omega) h2]
      simp (config := { maxSteps := 2000000 }) (disch := first | omega | (simp only [k1, k2, qb_in, qkW, qmW, qnW, true_and, and_true, or_self, true_or, or_true, and_self]; done) | (simp only [k1, k2, qb_in, qkW, qmW, qnW, true_and, and_true, or_self, true_or, or_true, and_self]; omega)) only [zD_112, b112_0, b112_4, b112_12, b112_21, b112_22, qcall_l, qcall_r, qretn_l, qJ_s, qJ_n, qV0, qEx, ↓qif0, ↓zchk_pos, ↓reduceIte, qput, qWW, qmW, qkW, qnW, k1, k2, a1, a3, if_neg h1, if_pos h2]
    · rw [if_neg (show ¬ (0 ≤ i ∧ i < (L.length : Int)) by omega)]
      simp (config := { maxSteps := 2000000 }) (disch := first | omega | (simp only [k1, qb_in, qkW, qmW, qnW, true_and, and_true, or_self, true_or, or_true, and_self]; done) | (simp only [k1, qb_in, qkW, qmW, qnW, true_and, and_true, or_self, true_or, or_true, and_self]; omega)) only [zD_112, b112_0, b112_4, b112_12, b112_21, b112_22, qcall_l, qcall_r, qretn_l, qJ_s, qJ_n, qV0, qEx, ↓qif0, ↓zchk_pos, ↓reduceIte, qput, qWW, qmW, qkW, qnW, k1, a3, if_neg h1, if_neg h2]
theorem s_wrLen (d : Nat) (T : zS) (w b c mk con i : Int) (L E : List Int) (h : 1 ≤ d) (hk : qWk T w b c) (hp : qWp (zm T) w b c L mk con E) (hl : E.length ≤ 4) :
    zD d 113 [vr w, vi i] T = some (.inl (some (vi (if i < 1 then 0 else if i < (E.length : Int) then qnth E (i - 1) else L.length))), T) := by
  obtain ⟨e, rfl, -⟩ := qd h
  obtain ⟨k1, k2, k3, n1, n2, n3⟩ := hk
  obtain ⟨a1, a2, a3, a4, a5, a6, a7, a8⟩ := hp
  by_cases h1 : i < 1
  · rw [if_pos h1]
    simp (config := { maxSteps := 2000000 }) (disch := first | omega | (simp only [k1, qb_in, qkW, qmW, qnW, true_and, and_true, or_self, true_or, or_true, and_self]; done) | (simp only [k1, qb_in, qkW, qmW, qnW, true_and, and_true, or_self, true_or, or_true, and_self]; omega)) only [zD_113, b113_0, b113_5, b113_9, b113_17, b113_26, b113_37, b113_41, qcall_l, qcall_r, qretn_l, qJ_s, qJ_n, qV0, qEx, ↓qif0, ↓zchk_pos, ↓reduceIte, qput, qWW, qmW, qkW, qnW, if_pos h1]
  · rw [if_neg h1]
    by_cases h2 : i < (E.length : Int)
    · rw [if_pos h2, ← qA_n a8 (i - 1) (by omega) (by omega)]
      simp (config := { maxSteps := 2000000 }) (disch := first | omega | (simp only [k1, k3, q32, qb_in, qkW, qmW, qnW, true_and, and_true, or_self, true_or, or_true, and_self]; done) | (simp only [k1, k3, q32, qb_in, qkW, qmW, qnW, true_and, and_true, or_self, true_or, or_true, and_self]; omega)) only [zD_113, b113_0, b113_5, b113_9, b113_17, b113_26, b113_37, b113_41, qcall_l, qcall_r, qretn_l, qJ_s, qJ_n, qV0, qEx, ↓qif0, ↓zchk_pos, ↓reduceIte, qput, qWW, qmW, qkW, qnW, k1, k3, a2, a6, if_neg h1, if_pos h2, if_neg (show ¬ (4 : Int) < i by omega), q32]
    · rw [if_neg h2]
      simp (config := { maxSteps := 2000000 }) (disch := first | omega | (simp only [k1, qb_in, qkW, qmW, qnW, true_and, and_true, or_self, true_or, or_true, and_self]; done) | (simp only [k1, qb_in, qkW, qmW, qnW, true_and, and_true, or_self, true_or, or_true, and_self]; omega)) only [zD_113, b113_0, b113_5, b113_9, b113_17, b113_26, b113_37, b113_41, qcall_l, qcall_r, qretn_l, qJ_s, qJ_n, qV0, qEx, ↓qif0, ↓zchk_pos, ↓reduceIte, qput, qWW, qmW, qkW, qnW, k1, a3, a6, if_neg h1, if_neg h2]
