/-! Rows filled from their begin on; what a state shows of the tape. -/
def qov (m : Int → Int → Int) (a : Int) (g : Int → Int) (n : Int) : Int → Int → Int := fun x i => if x = a ∧ 0 ≤ i ∧ i < n then g i else m x i
theorem qov_0 (m : Int → Int → Int) (a : Int) (g : Int → Int) : qov m a g 0 = m := by
  funext x i
  exact if_neg (by omega)
theorem qov_s (m : Int → Int → Int) (a : Int) (g : Int → Int) (n v : Int) (h : 0 ≤ n) (hv : v = g n) : qu (qov m a g n) a n v = qov m a g (n + 1) := by
  subst hv
  funext x i
  unfold qu qov
  by_cases hx : x = a
  · rw [if_pos hx]
    by_cases hi : i = n
    · rw [if_pos hi, if_pos ⟨hx, by omega, by omega⟩, hi]
    · rw [if_neg hi]
      by_cases h3 : 0 ≤ i ∧ i < n
      · rw [if_pos ⟨hx, h3⟩, if_pos ⟨hx, by omega, by omega⟩]
      · rw [if_neg (fun g => h3 g.2), if_neg (fun g => h3 (by omega))]
  · rw [if_neg hx, if_neg (fun g => hx g.1), if_neg (fun g => hx g.1)]
theorem qov_o (m : Int → Int → Int) (a : Int) (g : Int → Int) (n x : Int) (h : x ≠ a) : qov m a g n x = m x := by
  funext i
  exact if_neg fun g => h g.1
theorem qov_i (m : Int → Int → Int) (a : Int) (g : Int → Int) (n i : Int) (h : 0 ≤ i ∧ i < n) : qov m a g n a i = g i := if_pos ⟨rfl, h⟩
theorem qu_b (m : Int → Int → Int) (a j v b : Int) : qu m a j v b = if b = a then (fun i => if i = j then v else m b i) else m b := by
  by_cases h : b = a
  · rw [if_pos h]
    funext i
    exact if_pos h
  · rw [if_neg h]
    funext i
    exact if_neg h
theorem qb_T [Decidable True] : qb True = 1 := if_pos trivial
theorem qb_F [Decidable False] : qb False = 0 := if_neg id
theorem qKW (S : zS) (m : Int → Int → Int) : qK (qW S m) = qK S := rfl
def qTv (T : zS) (t : Int → Int) (n : Int) : Prop := qK T ∧ zm T 37 1 = 38 ∧ zm T 37 2 = n ∧ zm T 38 = t
theorem qTv_37 (S : zS) (m : Int → Int → Int) (j v : Int) (t : Int → Int) (n : Int) (h1 : j ≠ 1) (h2 : j ≠ 2) : qTv (qW S (qu m 37 j v)) t n = qTv (qW S m) t n := by
  unfold qTv
  simp only [qmW, qKW]
  rw [qu_i m 37 j v 1 (fun h => h1 h.symm), qu_i m 37 j v 2 (fun h => h2 h.symm), qu_o m 37 j v 38 (by decide)]
theorem qTv_u (S : zS) (m : Int → Int → Int) (a j v : Int) (t : Int → Int) (n : Int) (h1 : a ≠ 37) (h2 : a ≠ 38) : qTv (qW S (qu m a j v)) t n = qTv (qW S m) t n := by
  unfold qTv
  simp only [qmW, qKW]
  rw [qu_o m a j v 37 (fun h => h1 h.symm), qu_o m a j v 38 (fun h => h2 h.symm)]
theorem qTv_ov (S : zS) (m : Int → Int → Int) (a : Int) (g : Int → Int) (k : Int) (t : Int → Int) (n : Int) (h1 : a ≠ 37) (h2 : a ≠ 38) : qTv (qW S (qov m a g k)) t n = qTv (qW S m) t n := by
  unfold qTv
  simp only [qmW, qKW]
  rw [qov_o m a g k 37 (fun h => h1 h.symm), qov_o m a g k 38 (fun h => h2 h.symm)]
theorem v_signAt (d : Nat) (T : zS) (i : Int) (t : Int → Int) (n : Int) (hn : n ≤ 60) (hr : ∀ i, 0 ≤ i → i < n → 0 ≤ t i ∧ t i < 65536) (h : 1 ≤ d) (hi : 0 ≤ i) (hv : qTv T t n) : zD d 199 [vr 37, vi i] T = some (.inl (some (vi (qsg t n i))), T) := by
  obtain ⟨e, rfl, -⟩ := qd h
  obtain ⟨hK, p1, p2, p3⟩ := hv
  have hr := hr i hi
  simp (config := { maxSteps := 2000000 }) (disch := first | omega | (simp only [K_37 hK, qb_in, qkW, qmW, qnW, true_and, and_true, or_self, true_or, or_true, and_self]; done) | (simp only [K_37 hK, qb_in, qkW, qmW, qnW, true_and, and_true, or_self, true_or, or_true, and_self]; omega)) only [zD_199, b199_0, b199_8, b199_17, b199_18, qcall_l, qcall_r, qretn_l, qJ_s, qJ_n, qV0, qEx, ↓qif0, ↓zchk_pos, ↓reduceIte, qput, qWW, qmW, qkW, qnW, K_37 hK, K_38 hK, p1, p2, p3]
  unfold qsg
  split
  · rename_i h2
    have hr := hr h2
    simp (disch := omega) only [zchk_pos]
  · rfl
def qsl (c : Int) : Int := if qbg c then c + 32 else c
theorem r_small (d : Nat) (c : Int) (S : zS) (h : 3 ≤ d) (hc : 0 ≤ c ∧ c < 65536) : zD d 205 [vi c] S = some (.inl (some (vi (qsl c))), S) := by
  obtain ⟨e, rfl, h1⟩ := qd h
  unfold qsl
  by_cases hb : qbg c
  · have e1 : (c - 65 + 97) % 65536 = c + 32 := by omega
    rw [if_pos hb]
    simp (config := { maxSteps := 2000000 }) (disch := first | omega | (simp only [qb_in, qkW, qmW, qnW, true_and, and_true, or_self, true_or, or_true, and_self]; done) | (simp only [qb_in, qkW, qmW, qnW, true_and, and_true, or_self, true_or, or_true, and_self]; omega)) only [zD_205, b205_0, b205_4, b205_7, b205_18, b205_19, qcall_l, qcall_r, qretn_l, qJ_s, qJ_n, qV0, qEx, ↓qif0, ↓zchk_pos, ↓reduceIte, qput, qWW, qmW, qkW, qnW, r_isBig, q32, if_pos hb, e1]
  · rw [if_neg hb]
    simp (config := { maxSteps := 2000000 }) (disch := first | omega | (simp only [qb_in, qkW, qmW, qnW, true_and, and_true, or_self, true_or, or_true, and_self]; done) | (simp only [qb_in, qkW, qmW, qnW, true_and, and_true, or_self, true_or, or_true, and_self]; omega)) only [zD_205, b205_0, b205_4, b205_7, b205_18, b205_19, qcall_l, qcall_r, qretn_l, qJ_s, qJ_n, qV0, qEx, ↓qif0, ↓zchk_pos, ↓reduceIte, qput, qWW, qmW, qkW, qnW, r_isBig, if_neg hb]
