/-! The reference finds cells for the letters at hand. -/
def qfr (A J : List Int) (m m' : Int → Int → Int) : Prop := (∀ x, x ≠ 37 → x ∉ A → m' x = m x) ∧ (∀ j, j ∉ J → m' 37 j = m 37 j)
theorem qfr_r (A J : List Int) (m : Int → Int → Int) : qfr A J m m := ⟨fun _ _ _ => rfl, fun _ _ => rfl⟩
theorem qfr_t {A J B K : List Int} {m m1 m2 : Int → Int → Int} (h : qfr A J m m1) (g : qfr B K m1 m2) (s : ∀ x ∈ A, x ∈ B) (u : ∀ x ∈ J, x ∈ K) : qfr B K m m2 := ⟨fun x h1 h2 => (g.1 x h1 h2).trans (h.1 x h1 fun q => h2 (s x q)), fun j h1 => (g.2 j h1).trans (h.2 j fun q => h1 (u j q))⟩
theorem qfr_t' {A J B K : List Int} {m m1 m2 : Int → Int → Int} (h : qfr A J m m1) (g : qfr B K m1 m2) (s : ∀ x ∈ B, x ∈ A) (u : ∀ x ∈ K, x ∈ J) : qfr A J m m2 := ⟨fun x h1 h2 => (g.1 x h1 fun q => h2 (s x q)).trans (h.1 x h1 h2), fun j h1 => (g.2 j fun q => h1 (u j q)).trans (h.2 j h1)⟩
theorem qfr_m {A J B K : List Int} {m m1 : Int → Int → Int} (h : qfr A J m m1) (s : ∀ x ∈ A, x ∈ B) (u : ∀ x ∈ J, x ∈ K) : qfr B K m m1 := ⟨fun x h1 h2 => h.1 x h1 fun q => h2 (s x q), fun j h1 => h.2 j fun q => h1 (u j q)⟩
theorem qfr_a {A J : List Int} (m : Int → Int → Int) (a j v : Int) (h : a ≠ 37) (g : a ∈ A) : qfr A J m (qu m a j v) := ⟨fun x _ h2 => qu_o _ _ _ _ _ fun q => h2 (q ▸ g), fun i _ => by rw [qu_o _ _ _ _ _ (Ne.symm h)]⟩
theorem qfr_j {A J : List Int} (m : Int → Int → Int) (j v : Int) (g : j ∈ J) : qfr A J m (qu m 37 j v) := ⟨fun x h1 _ => qu_o _ _ _ _ _ h1, fun i h1 => qu_i _ _ _ _ _ fun q => h1 (q ▸ g)⟩
theorem qP_fr {A J : List Int} {m m' : Int → Int → Int} (h : qP m) (f : qfr A J m m') (g : qPt.all (fun q => if q.1 = 37 then !(J.contains q.2.1) else !(A.contains q.1)) = true) : qP m' := h.same fun q hq => by
  have := List.all_eq_true.mp g q hq
  by_cases c : q.1 = 37
  · rw [if_pos c] at this
    rw [c, f.2 q.2.1 fun z => by rw [List.contains_iff_mem.mpr z] at this; exact absurd this (by decide)]
  · rw [if_neg c] at this
    rw [f.1 q.1 c fun z => by rw [List.contains_iff_mem.mpr z] at this; exact absurd this (by decide)]
/-- the reference's table of a code -/
def qRc (m : Int → Int → Int) (c N : Int) (T : Int → Int → Int) : Prop := (0 ≤ c ∧ c ≤ 2) ∧ m 39 c = N ∧ (0 ≤ N ∧ N ≤ 24) ∧ ∀ k, 0 ≤ k → k < N → m 41 (24 * c + k) = T 0 k ∧ m 44 (24 * c + k) = T 1 k ∧ m 45 (24 * c + k) = T 2 k ∧ m 42 (24 * c + k) = T 3 k ∧ m 43 (24 * c + k) = T 4 k ∧ ∀ j, 0 ≤ j → j < T 0 k → m 40 (6 * (24 * c + k) + j) = T (5 + j) k + 97
theorem qRc_f {m m' : Int → Int → Int} {c N : Int} {T : Int → Int → Int} (h : qRc m c N T) (g : ∀ x, 39 ≤ x → x ≤ 45 → m' x = m x) : qRc m' c N T := by
  obtain ⟨h1, h2, h3, h4⟩ := h
  refine ⟨h1, by rw [g 39 (by decide) (by decide), h2], h3, fun k k1 k2 => ?_⟩
  rw [g 40 (by decide) (by decide), g 41 (by decide) (by decide), g 42 (by decide) (by decide), g 43 (by decide) (by decide), g 44 (by decide) (by decide), g 45 (by decide) (by decide)]
  exact h4 k k1 k2
/-- the word at hand: letters -/
def qRw (m : Int → Int → Int) (ws : Int → Int) (n P : Int) : Prop := m 37 36 = n ∧ m 37 38 = P ∧ ∀ j, 0 ≤ j → j < n → m 64 j = ws j + 97
theorem r_canWrite (d : Nat) (S : zS) (c N k g fr n P : Int) (T : Int → Int → Int) (ws : Int → Int) (h : 2 ≤ d) (hK : qK S) (hP : qP (zm S)) (hc : qRc (zm S) c N T) (hT : qTok T N) (hk : 0 ≤ k ∧ k < N) (hw : qRw (zm S) ws n P) (hf : 0 ≤ fr ∧ fr < n ∧ n ≤ 10) :
    zD d 216 [vr 37, vi (24 * c + k), vi g, vi fr] S = some (.inl (some (vi (qc (qCW T k g ws n (qEn P n fr) fr)))), S) := by
  obtain ⟨e, rfl, h1⟩ := qd h
  obtain ⟨c1, c2, c3, c4⟩ := hc
  obtain ⟨t0, t1, t2, t3, t4, t5⟩ := c4 k hk.1 hk.2
  obtain ⟨w1, w2, w3⟩ := hw
  have ht := hT k hk.1 hk.2
  obtain ⟨E1, E2, E3, E4⟩ := qEn_s P n fr hf
  have ft := r_fits e S (T 2 k) fr (T 0 k) n (by omega) ht.2.2.1 (by omega)
  have lp0 : ∀ (j : Int) (y2 : zV), zF_216 e 58 [vr 37, vi (24 * c + k), y2, vi fr, vi (T 0 k), vi 0, vi j] [] S = some (.inl (some (vi 0)), S) := by
    intro j y2
    rw [b216_58]
    simp (config := { maxSteps := 2000000 }) (disch := first | omega | (simp only [qb_in, qkW, qmW, qnW, true_and, and_true, or_self, true_or, or_true, and_self]; done) | (simp only [qb_in, qkW, qmW, qnW, true_and, and_true, or_self, true_or, or_true, and_self]; omega)) only [b216_0, b216_15, b216_18, b216_29, b216_45, b216_48, b216_52, b216_53, b216_65, b216_70, b216_86, b216_94, b216_103, b216_116, b216_119, b216_123, b216_124, b216_132, qcall_l, qcall_r, qretn_l, qJ_s, qJ_n, qV0, qEx, ↓qif0, ↓zchk_pos, ↓reduceIte, qput, qWW, qmW, qkW, qnW, ite_self]
  have lp1 : ∀ (f : Nat) (j : Int) (y2 : zV), 0 ≤ j → j + f = T 0 k → fr + T 0 k ≤ n → zF_216 e 58 [vr 37, vi (24 * c + k), y2, vi fr, vi (T 0 k), vi 1, vi j] [] S = some (.inl (some (vi (qc (∀ i, j ≤ i → i < T 0 k → T (5 + i) k = ws (fr + i) ∧ (i = T 0 k - 1 ∨ qbt P (fr + i + 1) = 0))))), S) := by
    intro f
    induction f with
    | zero =>
      intro j y2 h2 h3 h4
      rw [b216_58, qc_p fun i h5 h6 => by omega]
      simp (config := { maxSteps := 2000000 }) (disch := first | omega | (simp only [qb_in, qkW, qmW, qnW, true_and, and_true, or_self, true_or, or_true, and_self]; done) | (simp only [qb_in, qkW, qmW, qnW, true_and, and_true, or_self, true_or, or_true, and_self]; omega)) only [b216_0, b216_15, b216_18, b216_29, b216_45, b216_48, b216_52, b216_53, b216_65, b216_70, b216_86, b216_94, b216_103, b216_116, b216_119, b216_123, b216_124, b216_132, qcall_l, qcall_r, qretn_l, qJ_s, qJ_n, qV0, qEx, ↓qif0, ↓zchk_pos, ↓reduceIte, qput, qWW, qmW, qkW, qnW, if_neg (show ¬ j < T 0 k by omega), Int.reduceLE, true_and, and_self]
    | succ f ih =>
      intro j y2 h2 h3 h4
      have g1 := t5 j h2 (by omega)
      have g2 := w3 (fr + j) (by omega) (by omega)
      have i1 := ih (j + 1)
      have gb := qbt_z P (fr + j + 1) (by omega)
      rw [b216_58]
      by_cases q1 : T (5 + j) k + 97 = ws (fr + j) + 97
      · by_cases q2 : j = T 0 k - 1
        · have e0 : (∀ i, j ≤ i → i < T 0 k → T (5 + i) k = ws (fr + i) ∧ (i = T 0 k - 1 ∨ qbt P (fr + i + 1) = 0)) = (∀ i, j + 1 ≤ i → i < T 0 k → T (5 + i) k = ws (fr + i) ∧ (i = T 0 k - 1 ∨ qbt P (fr + i + 1) = 0)) := propext ⟨fun z i h5 h6 => z i (by omega) h6, fun z i h5 h6 => by
            by_cases q : i = j
            · rw [q]
              exact ⟨by omega, Or.inl q2⟩
            · exact z i (by omega) h6⟩
          rw [e0]
          simp (config := { maxSteps := 2000000 }) (disch := first | omega | (simp only [K_37 hK, K_40 hK, P_37_6 hP, K_64 hK, P_37_35 hP, P_37_6 hP, P_37_35 hP, K_40 hK, K_64 hK, q32, qb_in, qkW, qmW, qnW, true_and, and_true, or_self, true_or, or_true, and_self]; done) | (simp only [K_37 hK, K_40 hK, P_37_6 hP, K_64 hK, P_37_35 hP, P_37_6 hP, P_37_35 hP, K_40 hK, K_64 hK, q32, qb_in, qkW, qmW, qnW, true_and, and_true, or_self, true_or, or_true, and_self]; omega)) only [b216_0, b216_15, b216_18, b216_29, b216_45, b216_48, b216_52, b216_53, b216_65, b216_70, b216_86, b216_94, b216_103, b216_116, b216_119, b216_123, b216_124, b216_132, qcall_l, qcall_r, qretn_l, qJ_s, qJ_n, qV0, qEx, ↓qif0, ↓zchk_pos, ↓reduceIte, qput, qWW, qmW, qkW, qnW, K_37 hK, K_40 hK, P_37_6 hP, K_64 hK, P_37_35 hP, P_37_6 hP, P_37_35 hP, g1, g2, if_pos (show j < T 0 k by omega), Int.reduceEq, q32, if_pos q1, if_pos q2]
          exact i1 _ (by omega) (by omega) h4
        · by_cases q3 : qbt P (fr + j + 1) = 0
          · have e0 : (∀ i, j ≤ i → i < T 0 k → T (5 + i) k = ws (fr + i) ∧ (i = T 0 k - 1 ∨ qbt P (fr + i + 1) = 0)) = (∀ i, j + 1 ≤ i → i < T 0 k → T (5 + i) k = ws (fr + i) ∧ (i = T 0 k - 1 ∨ qbt P (fr + i + 1) = 0)) := propext ⟨fun z i h5 h6 => z i (by omega) h6, fun z i h5 h6 => by
              by_cases q : i = j
              · rw [q]
                exact ⟨by omega, Or.inr q3⟩
              · exact z i (by omega) h6⟩
            rw [e0]
            simp (config := { maxSteps := 2000000 }) (disch := first | omega | (simp only [K_37 hK, K_40 hK, P_37_6 hP, K_64 hK, P_37_35 hP, P_37_6 hP, P_37_35 hP, K_40 hK, K_64 hK, q32, qb_in, qkW, qmW, qnW, true_and, and_true, or_self, true_or, or_true, and_self]; done) | (simp only [K_37 hK, K_40 hK, P_37_6 hP, K_64 hK, P_37_35 hP, P_37_6 hP, P_37_35 hP, K_40 hK, K_64 hK, q32, qb_in, qkW, qmW, qnW, true_and, and_true, or_self, true_or, or_true, and_self]; omega)) only [b216_0, b216_15, b216_18, b216_29, b216_45, b216_48, b216_52, b216_53, b216_65, b216_70, b216_86, b216_94, b216_103, b216_116, b216_119, b216_123, b216_124, b216_132, qcall_l, qcall_r, qretn_l, qJ_s, qJ_n, qV0, qEx, ↓qif0, ↓zchk_pos, ↓reduceIte, qput, qWW, qmW, qkW, qnW, K_37 hK, K_40 hK, P_37_6 hP, K_64 hK, P_37_35 hP, P_37_6 hP, P_37_35 hP, g1, g2, w2, gb, if_pos (show j < T 0 k by omega), Int.reduceEq, q32, if_pos q1, if_neg q2, if_pos q3]
            exact i1 _ (by omega) (by omega) h4
          · rw [qc_n fun z => by
              rcases (z j (by omega) (by omega)).2 with q | q
              · exact q2 q
              · exact q3 q]
            simp (config := { maxSteps := 2000000 }) (disch := first | omega | (simp only [K_37 hK, K_40 hK, P_37_6 hP, K_64 hK, P_37_35 hP, P_37_6 hP, P_37_35 hP, K_40 hK, K_64 hK, q32, qb_in, qkW, qmW, qnW, true_and, and_true, or_self, true_or, or_true, and_self]; done) | (simp only [K_37 hK, K_40 hK, P_37_6 hP, K_64 hK, P_37_35 hP, P_37_6 hP, P_37_35 hP, K_40 hK, K_64 hK, q32, qb_in, qkW, qmW, qnW, true_and, and_true, or_self, true_or, or_true, and_self]; omega)) only [b216_0, b216_15, b216_18, b216_29, b216_45, b216_48, b216_52, b216_53, b216_65, b216_70, b216_86, b216_94, b216_103, b216_116, b216_119, b216_123, b216_124, b216_132, qcall_l, qcall_r, qretn_l, qJ_s, qJ_n, qV0, qEx, ↓qif0, ↓zchk_pos, ↓reduceIte, qput, qWW, qmW, qkW, qnW, K_37 hK, K_40 hK, P_37_6 hP, K_64 hK, P_37_35 hP, P_37_6 hP, P_37_35 hP, g1, g2, w2, gb, if_pos (show j < T 0 k by omega), Int.reduceEq, q32, if_pos q1, if_neg q2, if_neg q3]
            exact lp0 _ _
      · rw [qc_n fun z => q1 (by rw [(z j (by omega) (by omega)).1])]
        simp (config := { maxSteps := 2000000 }) (disch := first | omega | (simp only [K_37 hK, K_40 hK, P_37_6 hP, K_64 hK, P_37_35 hP, P_37_6 hP, P_37_35 hP, K_40 hK, K_64 hK, q32, qb_in, qkW, qmW, qnW, true_and, and_true, or_self, true_or, or_true, and_self]; done) | (simp only [K_37 hK, K_40 hK, P_37_6 hP, K_64 hK, P_37_35 hP, P_37_6 hP, P_37_35 hP, K_40 hK, K_64 hK, q32, qb_in, qkW, qmW, qnW, true_and, and_true, or_self, true_or, or_true, and_self]; omega)) only [b216_0, b216_15, b216_18, b216_29, b216_45, b216_48, b216_52, b216_53, b216_65, b216_70, b216_86, b216_94, b216_103, b216_116, b216_119, b216_123, b216_124, b216_132, qcall_l, qcall_r, qretn_l, qJ_s, qJ_n, qV0, qEx, ↓qif0, ↓zchk_pos, ↓reduceIte, qput, qWW, qmW, qkW, qnW, K_37 hK, K_40 hK, P_37_6 hP, K_64 hK, P_37_35 hP, P_37_6 hP, P_37_35 hP, g1, g2, if_pos (show j < T 0 k by omega), Int.reduceEq, q32, if_neg q1]
        exact lp0 _ _
  by_cases q1 : g < T 1 k
  · rw [qc_n fun z => by have := z.1; omega]
    simp (config := { maxSteps := 2000000 }) (disch := first | omega | (simp only [K_37 hK, K_41 hK, P_37_7 hP, K_44 hK, P_37_10 hP, P_37_7 hP, P_37_10 hP, qb_in, qkW, qmW, qnW, true_and, and_true, or_self, true_or, or_true, and_self]; done) | (simp only [K_37 hK, K_41 hK, P_37_7 hP, K_44 hK, P_37_10 hP, P_37_7 hP, P_37_10 hP, qb_in, qkW, qmW, qnW, true_and, and_true, or_self, true_or, or_true, and_self]; omega)) only [zD_216, b216_0, b216_15, b216_18, b216_29, b216_45, b216_48, b216_52, b216_53, b216_65, b216_70, b216_86, b216_94, b216_103, b216_116, b216_119, b216_123, b216_124, b216_132, qcall_l, qcall_r, qretn_l, qJ_s, qJ_n, qV0, qEx, ↓qif0, ↓zchk_pos, ↓reduceIte, qput, qWW, qmW, qkW, qnW, K_37 hK, K_41 hK, P_37_7 hP, K_44 hK, P_37_10 hP, P_37_7 hP, P_37_10 hP, t0, t1, if_pos q1]
    exact lp0 _ _
  · by_cases q2 : n < fr + T 0 k
    · rw [qc_n fun z => by have := z.2.1; omega]
      simp (config := { maxSteps := 2000000 }) (disch := first | omega | (simp only [K_37 hK, K_41 hK, P_37_7 hP, K_44 hK, P_37_10 hP, P_37_7 hP, P_37_10 hP, qb_in, qkW, qmW, qnW, true_and, and_true, or_self, true_or, or_true, and_self]; done) | (simp only [K_37 hK, K_41 hK, P_37_7 hP, K_44 hK, P_37_10 hP, P_37_7 hP, P_37_10 hP, qb_in, qkW, qmW, qnW, true_and, and_true, or_self, true_or, or_true, and_self]; omega)) only [zD_216, b216_0, b216_15, b216_18, b216_29, b216_45, b216_48, b216_52, b216_53, b216_65, b216_70, b216_86, b216_94, b216_103, b216_116, b216_119, b216_123, b216_124, b216_132, qcall_l, qcall_r, qretn_l, qJ_s, qJ_n, qV0, qEx, ↓qif0, ↓zchk_pos, ↓reduceIte, qput, qWW, qmW, qkW, qnW, K_37 hK, K_41 hK, P_37_7 hP, K_44 hK, P_37_10 hP, P_37_7 hP, P_37_10 hP, t0, t1, w1, q32, if_neg q1, if_pos q2]
      exact lp0 _ _
    · by_cases q3 : qfit (T 2 k) fr (T 0 k) n
      · rw [qb_p q3] at ft
        have e0 : (qCW T k g ws n (qEn P n fr) fr) = (∀ i, 0 ≤ i → i < T 0 k → T (5 + i) k = ws (fr + i) ∧ (i = T 0 k - 1 ∨ qbt P (fr + i + 1) = 0)) := propext ⟨fun z i h5 h6 => by
            refine ⟨z.2.2.1 i h5 h6, ?_⟩
            by_cases q : i = T 0 k - 1
            · exact Or.inl q
            · have := z.2.1
              exact Or.inr (E3 (fr + i + 1) (by omega) (by omega)), fun z => by
            refine ⟨by omega, ?_, fun j h5 h6 => (z j h5 h6).1, q3⟩
            by_cases q : fr + T 0 k ≤ qEn P n fr
            · exact q
            · rcases (z (qEn P n fr - fr - 1) (by omega) (by omega)).2 with y | y
              · omega
              · rw [show fr + (qEn P n fr - fr - 1) + 1 = qEn P n fr by omega, E4 (by omega)] at y
                exact absurd y (by decide)⟩
        rw [e0]
        simp (config := { maxSteps := 2000000 }) (disch := first | omega | (simp only [K_37 hK, K_41 hK, P_37_7 hP, K_44 hK, P_37_10 hP, K_45 hK, P_37_11 hP, P_37_7 hP, P_37_10 hP, P_37_11 hP, qb_in, qkW, qmW, qnW, true_and, and_true, or_self, true_or, or_true, and_self]; done) | (simp only [K_37 hK, K_41 hK, P_37_7 hP, K_44 hK, P_37_10 hP, K_45 hK, P_37_11 hP, P_37_7 hP, P_37_10 hP, P_37_11 hP, qb_in, qkW, qmW, qnW, true_and, and_true, or_self, true_or, or_true, and_self]; omega)) only [zD_216, b216_0, b216_15, b216_18, b216_29, b216_45, b216_48, b216_52, b216_53, b216_65, b216_70, b216_86, b216_94, b216_103, b216_116, b216_119, b216_123, b216_124, b216_132, qcall_l, qcall_r, qretn_l, qJ_s, qJ_n, qV0, qEx, ↓qif0, ↓zchk_pos, ↓reduceIte, qput, qWW, qmW, qkW, qnW, K_37 hK, K_41 hK, P_37_7 hP, K_44 hK, P_37_10 hP, K_45 hK, P_37_11 hP, P_37_7 hP, P_37_10 hP, P_37_11 hP, t0, t1, t2, w1, q32, if_neg q1, if_neg q2, ft, Int.reduceEq]
        exact lp1 (T 0 k).toNat 0 _ (by omega) (by omega) (by omega)
      · rw [qb_n q3] at ft
        rw [qc_n fun z => q3 z.2.2.2]
        simp (config := { maxSteps := 2000000 }) (disch := first | omega | (simp only [K_37 hK, K_41 hK, P_37_7 hP, K_44 hK, P_37_10 hP, K_45 hK, P_37_11 hP, P_37_7 hP, P_37_10 hP, P_37_11 hP, qb_in, qkW, qmW, qnW, true_and, and_true, or_self, true_or, or_true, and_self]; done) | (simp only [K_37 hK, K_41 hK, P_37_7 hP, K_44 hK, P_37_10 hP, K_45 hK, P_37_11 hP, P_37_7 hP, P_37_10 hP, P_37_11 hP, qb_in, qkW, qmW, qnW, true_and, and_true, or_self, true_or, or_true, and_self]; omega)) only [zD_216, b216_0, b216_15, b216_18, b216_29, b216_45, b216_48, b216_52, b216_53, b216_65, b216_70, b216_86, b216_94, b216_103, b216_116, b216_119, b216_123, b216_124, b216_132, qcall_l, qcall_r, qretn_l, qJ_s, qJ_n, qV0, qEx, ↓qif0, ↓zchk_pos, ↓reduceIte, qput, qWW, qmW, qkW, qnW, K_37 hK, K_41 hK, P_37_7 hP, K_44 hK, P_37_10 hP, K_45 hK, P_37_11 hP, P_37_7 hP, P_37_10 hP, P_37_11 hP, t0, t1, t2, w1, q32, if_neg q1, if_neg q2, ft]
        exact lp0 _ _
def qzz (c b : Int) : Int := if b = -1 then -1 else 24 * c + b
theorem r_bestToWrite (d : Nat) (S : zS) (c N g fr n P : Int) (T : Int → Int → Int) (ws : Int → Int) (h : 3 ≤ d) (hK : qK S) (hP : qP (zm S)) (hc : qRc (zm S) c N T) (hT : qTok T N) (hw : qRw (zm S) ws n P) (hf : 0 ≤ fr ∧ fr < n ∧ n ≤ 10) :
    zD d 218 [vr 37, vi c, vi g, vi fr] S = some (.inl (some (vi (qzz c (qbw T N g ws P n fr)))), S) := by
  obtain ⟨e, rfl, h1⟩ := qd h
  have hc0 := hc
  obtain ⟨c1, c2, c3, c4⟩ := hc
  have lp : ∀ (f : Nat) (k best most : Int), 0 ≤ k → k + f = N → (best = -1 ∧ most = 0 ∨ 0 ≤ best ∧ best < N ∧ most = T 0 best) → zF_218 e 9 [vr 37, vi c, vi g, vi fr, vi (qzz c best), vi (24 * c + k)] [] S = some (.inl (some (vi (qzz c (qbs (fun k => qc (qCW T k g ws n (qEn P n fr) fr)) (T 0) f k best most)))), S) := by
    intro f
    induction f with
    | zero =>
      intro k best most h2 h3 h4
      rw [b218_9]
      simp (config := { maxSteps := 2000000 }) (disch := first | omega | (simp only [K_37 hK, K_39 hK, P_37_5 hP, P_37_5 hP, qb_in, qkW, qmW, qnW, true_and, and_true, or_self, true_or, or_true, and_self]; done) | (simp only [K_37 hK, K_39 hK, P_37_5 hP, P_37_5 hP, qb_in, qkW, qmW, qnW, true_and, and_true, or_self, true_or, or_true, and_self]; omega)) only [b218_0, b218_25, b218_33, b218_36, b218_42, b218_59, b218_64, b218_66, b218_74, qcall_l, qcall_r, qretn_l, qJ_s, qJ_n, qV0, qEx, ↓qif0, ↓zchk_pos, ↓reduceIte, qput, qWW, qmW, qkW, qnW, K_37 hK, K_39 hK, P_37_5 hP, P_37_5 hP, c2, if_neg (show ¬ 24 * c + k < 24 * c + N by omega), q32, qbs]
    | succ f ih =>
      intro k best most h2 h3 h4
      have cw := r_canWrite e S c N k g fr n P T ws (by omega) hK hP hc0 hT ⟨h2, by omega⟩ hw hf
      have tk := (c4 k h2 (by omega)).1
      have tk2 := (hT k h2 (by omega)).1
      rw [b218_9]
      simp only [qbs]
      by_cases q1 : qc (qCW T k g ws n (qEn P n fr) fr) = 0
      · rw [if_neg (show ¬ (most < T 0 k ∧ qc (qCW T k g ws n (qEn P n fr) fr) ≠ 0) from fun z => z.2 q1)]
        rw [q1] at cw
        simp (config := { maxSteps := 2000000 }) (disch := first | omega | (simp only [K_37 hK, K_39 hK, P_37_5 hP, P_37_5 hP, qb_in, qkW, qmW, qnW, true_and, and_true, or_self, true_or, or_true, and_self]; done) | (simp only [K_37 hK, K_39 hK, P_37_5 hP, P_37_5 hP, qb_in, qkW, qmW, qnW, true_and, and_true, or_self, true_or, or_true, and_self]; omega)) only [b218_0, b218_25, b218_33, b218_36, b218_42, b218_59, b218_64, b218_66, b218_74, qcall_l, qcall_r, qretn_l, qJ_s, qJ_n, qV0, qEx, ↓qif0, ↓zchk_pos, ↓reduceIte, qput, qWW, qmW, qkW, qnW, K_37 hK, K_39 hK, P_37_5 hP, P_37_5 hP, c2, if_pos (show 24 * c + k < 24 * c + N by omega), q32, cw]
        rw [show 24 * c + k + 1 = 24 * c + (k + 1) by omega]
        exact ih (k + 1) best most (by omega) (by omega) h4
      · by_cases q2 : best = -1
        · have e1 : qzz c best = -1 := if_pos q2
          rw [if_pos (show most < T 0 k ∧ qc (qCW T k g ws n (qEn P n fr) fr) ≠ 0 from ⟨by omega, q1⟩), e1]
          simp (config := { maxSteps := 2000000 }) (disch := first | omega | (simp only [K_37 hK, K_39 hK, P_37_5 hP, P_37_5 hP, qb_in, qkW, qmW, qnW, true_and, and_true, or_self, true_or, or_true, and_self]; done) | (simp only [K_37 hK, K_39 hK, P_37_5 hP, P_37_5 hP, qb_in, qkW, qmW, qnW, true_and, and_true, or_self, true_or, or_true, and_self]; omega)) only [b218_0, b218_25, b218_33, b218_36, b218_42, b218_59, b218_64, b218_66, b218_74, qcall_l, qcall_r, qretn_l, qJ_s, qJ_n, qV0, qEx, ↓qif0, ↓zchk_pos, ↓reduceIte, qput, qWW, qmW, qkW, qnW, K_37 hK, K_39 hK, P_37_5 hP, P_37_5 hP, c2, if_pos (show 24 * c + k < 24 * c + N by omega), q32, cw, if_neg q1]
          rw [show 24 * c + k + 1 = 24 * c + (k + 1) by omega]
          have := ih (k + 1) k (T 0 k) (by omega) (by omega) (Or.inr ⟨h2, by omega, rfl⟩)
          rw [show qzz c k = 24 * c + k from if_neg (by omega)] at this
          exact this
        · have e1 : qzz c best = 24 * c + best := if_neg q2
          have hb : 0 ≤ best ∧ best < N ∧ most = T 0 best := h4.resolve_left fun z => q2 z.1
          have tb := (c4 best hb.1 hb.2.1).1
          by_cases q3 : T 0 best < T 0 k
          · rw [if_pos (show most < T 0 k ∧ qc (qCW T k g ws n (qEn P n fr) fr) ≠ 0 from ⟨by omega, q1⟩), e1]
            simp (config := { maxSteps := 2000000 }) (disch := first | omega | (simp only [K_37 hK, K_39 hK, P_37_5 hP, K_41 hK, P_37_7 hP, P_37_5 hP, P_37_7 hP, qb_in, qkW, qmW, qnW, true_and, and_true, or_self, true_or, or_true, and_self]; done) | (simp only [K_37 hK, K_39 hK, P_37_5 hP, K_41 hK, P_37_7 hP, P_37_5 hP, P_37_7 hP, qb_in, qkW, qmW, qnW, true_and, and_true, or_self, true_or, or_true, and_self]; omega)) only [b218_0, b218_25, b218_33, b218_36, b218_42, b218_59, b218_64, b218_66, b218_74, qcall_l, qcall_r, qretn_l, qJ_s, qJ_n, qV0, qEx, ↓qif0, ↓zchk_pos, ↓reduceIte, qput, qWW, qmW, qkW, qnW, K_37 hK, K_39 hK, P_37_5 hP, K_41 hK, P_37_7 hP, P_37_5 hP, P_37_7 hP, c2, tk, tb, if_pos (show 24 * c + k < 24 * c + N by omega), q32, cw, if_neg q1, if_neg (show ¬ 24 * c + best = -1 by omega), if_pos q3]
            rw [show 24 * c + k + 1 = 24 * c + (k + 1) by omega]
            have := ih (k + 1) k (T 0 k) (by omega) (by omega) (Or.inr ⟨h2, by omega, rfl⟩)
            rw [show qzz c k = 24 * c + k from if_neg (by omega)] at this
            exact this
          · rw [if_neg (show ¬ (most < T 0 k ∧ qc (qCW T k g ws n (qEn P n fr) fr) ≠ 0) from fun z => q3 (by have := z.1; omega)), e1]
            simp (config := { maxSteps := 2000000 }) (disch := first | omega | (simp only [K_37 hK, K_39 hK, P_37_5 hP, K_41 hK, P_37_7 hP, P_37_5 hP, P_37_7 hP, qb_in, qkW, qmW, qnW, true_and, and_true, or_self, true_or, or_true, and_self]; done) | (simp only [K_37 hK, K_39 hK, P_37_5 hP, K_41 hK, P_37_7 hP, P_37_5 hP, P_37_7 hP, qb_in, qkW, qmW, qnW, true_and, and_true, or_self, true_or, or_true, and_self]; omega)) only [b218_0, b218_25, b218_33, b218_36, b218_42, b218_59, b218_64, b218_66, b218_74, qcall_l, qcall_r, qretn_l, qJ_s, qJ_n, qV0, qEx, ↓qif0, ↓zchk_pos, ↓reduceIte, qput, qWW, qmW, qkW, qnW, K_37 hK, K_39 hK, P_37_5 hP, K_41 hK, P_37_7 hP, P_37_5 hP, P_37_7 hP, c2, tk, tb, if_pos (show 24 * c + k < 24 * c + N by omega), q32, cw, if_neg q1, if_neg (show ¬ 24 * c + best = -1 by omega), if_neg q3]
            rw [show 24 * c + k + 1 = 24 * c + (k + 1) by omega]
            have := ih (k + 1) best most (by omega) (by omega) h4
            rw [e1] at this
            exact this
  have := lp N.toNat 0 (-1) 0 (by omega) (by omega) (Or.inl ⟨rfl, rfl⟩)
  rw [show qzz c (-1) = -1 from rfl, show 24 * c + 0 = 24 * c by omega] at this
  simp (config := { maxSteps := 2000000 }) (disch := first | omega | (simp only [qb_in, qkW, qmW, qnW, true_and, and_true, or_self, true_or, or_true, and_self]; done) | (simp only [qb_in, qkW, qmW, qnW, true_and, and_true, or_self, true_or, or_true, and_self]; omega)) only [zD_218, b218_0, b218_25, b218_33, b218_36, b218_42, b218_59, b218_64, b218_66, b218_74, qcall_l, qcall_r, qretn_l, qJ_s, qJ_n, qV0, qEx, ↓qif0, ↓zchk_pos, ↓reduceIte, qput, qWW, qmW, qkW, qnW, q32]
  exact this
/-- what has been found -/
def qFd (m : Int → Int → Int) (C : List (Int × Int)) (u : Int) : Prop := m 37 40 = C.length ∧ m 37 42 = u ∧ qA m 65 (C.map Prod.fst) ∧ qA m 66 (C.map Prod.snd)
theorem r_findsCell (d : Nat) (S : zS) (v x u : Int) (C : List (Int × Int)) (h : 1 ≤ d) (hK : qK S) (hP : qP (zm S)) (hF : qFd (zm S) C u) (hl : C.length < 16) :
    ∃ m', zD d 221 [vr 37, vi v, vi x] S = some (.inl none, qW S m') ∧ qFd m' (C ++ [(v, x)]) u ∧ qfr [65, 66] [40] (zm S) m' := by
  obtain ⟨e, rfl, -⟩ := qd h
  obtain ⟨f1, f2, f3, f4⟩ := hF
  have e1 : qu (zm S) 65 C.length v 37 = zm S 37 := qu_o _ _ _ _ _ (by decide)
  have e2 : qu (qu (zm S) 65 C.length v) 66 C.length x 37 = zm S 37 := by rw [qu_o _ _ _ _ _ (by decide), e1]
  refine ⟨qu (qu (qu (zm S) 65 C.length v) 66 C.length x) 37 40 (C.length + 1), ?_, ⟨?_, ?_, ?_, ?_⟩, ?_⟩
  · simp (config := { maxSteps := 2000000 }) (disch := first | omega | (simp only [K_37 hK, K_65 hK, P_37_39 hP, K_66 hK, P_37_41 hP, P_37_39 hP, P_37_41 hP, f1, e1, e2, qb_in, qkW, qmW, qnW, true_and, and_true, or_self, true_or, or_true, and_self]; done) | (simp only [K_37 hK, K_65 hK, P_37_39 hP, K_66 hK, P_37_41 hP, P_37_39 hP, P_37_41 hP, f1, e1, e2, qb_in, qkW, qmW, qnW, true_and, and_true, or_self, true_or, or_true, and_self]; omega)) only [zD_221, b221_0, b221_18, qcall_l, qcall_r, qretn_l, qJ_s, qJ_n, qV0, qEx, ↓qif0, ↓zchk_pos, ↓reduceIte, qput, qWW, qmW, qkW, qnW, K_37 hK, K_65 hK, P_37_39 hP, K_66 hK, P_37_41 hP, P_37_39 hP, P_37_41 hP, f1, e1, e2, q32]
  · rw [qu_s, List.length_append]; rfl
  · rw [qu_i _ _ _ _ _ (by decide), e2, f2]
  · refine qA_o ?_ (qu_o _ _ _ _ _ (by decide))
    rw [List.map_append]
    refine qA_o ?_ (qu_o _ _ _ _ _ (by decide))
    have := qA_push f3 v
    rw [List.length_map] at this
    exact this
  · refine qA_o ?_ (qu_o _ _ _ _ _ (by decide))
    rw [List.map_append]
    have := qA_push (qA_o f4 (qu_o (zm S) 65 C.length v 66 (by decide))) x
    rw [List.length_map] at this
    exact this
  · exact qfr_t' (qfr_t' (qfr_a _ _ _ _ (by decide) (by simp)) (qfr_a _ _ _ _ (by decide) (by simp)) (fun _ h => h) fun _ h => h) (qfr_j _ _ _ (by simp)) (fun _ h => h) fun _ h => h
theorem r_finds (d : Nat) (S : zS) (c N g n P : Int) (T : Int → Int → Int) (ws : Int → Int) (h : 5 ≤ d) (hK : qK S) (hP : qP (zm S)) (hc : qRc (zm S) c N T) (hT : qTok T N) (hw : qRw (zm S) ws n P) (hn : 0 ≤ n ∧ n ≤ 10) (hws : ∀ j, 0 ≤ j → j < n → 0 ≤ ws j ∧ ws j < 26) :
    ∃ m', zD d 222 [vr 37, vi c, vi g] S = some (.inl none, qW S m') ∧ qFd m' (qct T ws (qbw T N g ws P n) n n.toNat 0) (qcu T (qbw T N g ws P n) n n.toNat 0 0) ∧ qfr [65, 66] [40, 42] (zm S) m' := by
  obtain ⟨e, rfl, h1⟩ := qd h
  have hN := hc.2.2.1
  have lp : ∀ (f : Nat) (at_ : Int) (m : Int → Int → Int) (C0 : List (Int × Int)) (u : Int) (y4 y5 : zV), 0 ≤ at_ → at_ ≤ n → n ≤ at_ + f → qfr [65, 66] [40, 42] (zm S) m → qFd m C0 u → (C0.length : Int) ≤ at_ →
      ∃ m', zF_222 e 12 [vr 37, vi c, vi g, vi at_, y4, y5] [] (qW S m) = some (.inl none, qW S m') ∧ qFd m' (C0 ++ qct T ws (qbw T N g ws P n) n f at_) (qcu T (qbw T N g ws P n) n f at_ u) ∧ qfr [65, 66] [40, 42] (zm S) m' := by
    intro f
    induction f with
    | zero =>
      intro at_ m C0 u y4 y5 h2 h3 h4 hf hF hC
      have e1 : m 37 36 = n := by rw [hf.2 36 (by decide)]; exact hw.1
      rw [b222_12]
      refine ⟨m, ?_, ?_, hf⟩
      · simp (config := { maxSteps := 2000000 }) (disch := first | omega | (simp only [K_37 hK, qb_in, qkW, qmW, qnW, true_and, and_true, or_self, true_or, or_true, and_self]; done) | (simp only [K_37 hK, qb_in, qkW, qmW, qnW, true_and, and_true, or_self, true_or, or_true, and_self]; omega)) only [b222_0, b222_20, b222_27, b222_35, b222_41, b222_50, b222_59, b222_68, b222_71, b222_78, b222_83, b222_89, b222_103, b222_117, b222_130, b222_136, qcall_l, qcall_r, qretn_l, qJ_s, qJ_n, qV0, qEx, ↓qif0, ↓zchk_pos, ↓reduceIte, qput, qWW, qmW, qkW, qnW, K_37 hK, e1, if_neg (show ¬ at_ < n by omega)]
      · simp only [qct, qcu, List.append_nil]
        exact hF
    | succ f ih =>
      intro at_ m C0 u y4 y5 h2 h3 h4 hf hF hC
      have e1 : m 37 36 = n := by rw [hf.2 36 (by decide)]; exact hw.1
      have hP' : qP m := qP_fr hP hf (by decide)
      have hc' : qRc m c N T := qRc_f hc fun x h5 h6 => hf.1 x (by omega) (by simp only [List.mem_cons, List.not_mem_nil, or_false]; omega)
      have hw' : qRw m ws n P := ⟨e1, by rw [hf.2 38 (by decide)]; exact hw.2.1, fun j h5 h6 => by rw [hf.1 64 (by decide) (by decide)]; exact hw.2.2 j h5 h6⟩
      simp only [qct, qcu]
      rw [b222_12]
      by_cases c0 : n ≤ at_
      · rw [if_pos c0, if_pos c0]
        refine ⟨m, ?_, ?_, hf⟩
        · simp (config := { maxSteps := 2000000 }) (disch := first | omega | (simp only [K_37 hK, qb_in, qkW, qmW, qnW, true_and, and_true, or_self, true_or, or_true, and_self]; done) | (simp only [K_37 hK, qb_in, qkW, qmW, qnW, true_and, and_true, or_self, true_or, or_true, and_self]; omega)) only [b222_0, b222_20, b222_27, b222_35, b222_41, b222_50, b222_59, b222_68, b222_71, b222_78, b222_83, b222_89, b222_103, b222_117, b222_130, b222_136, qcall_l, qcall_r, qretn_l, qJ_s, qJ_n, qV0, qEx, ↓qif0, ↓zchk_pos, ↓reduceIte, qput, qWW, qmW, qkW, qnW, K_37 hK, e1, if_neg (show ¬ at_ < n by omega)]
        · rw [List.append_nil]
          exact hF
      · rw [if_neg c0, if_neg c0]
        have bw := r_bestToWrite e (qW S m) c N g at_ n P T ws (by omega) hK hP' hc' hT hw' ⟨h2, by omega, hn.2⟩
        obtain ⟨X1, X2, X3, X4⟩ := qbw_x (g := g) (ws := ws) (P := P) (n := n) (at_ := at_) hN.1 hT ⟨h2, by omega, hn.2⟩
        obtain ⟨E1, E2, E3, E4⟩ := qEn_s P n at_ ⟨h2, by omega, hn.2⟩
        have hbs := qbw_s (T := T) (N := N) (g := g) (ws := ws) (P := P) (n := n) (at_ := at_) hN.1
        generalize hbe : qbw T N g ws P n at_ = be at X1 X2 X3 X4 bw hbs ⊢
        rw [← List.append_assoc]
        by_cases q1 : be = -1
        · have es : qsc T ws be at_ = [(qlc (ws at_), at_ + 1)] := by unfold qsc; rw [if_pos q1]
          have en : qnxt T be at_ = at_ + 1 := by unfold qnxt; rw [if_pos q1]
          have eu : qus be u = u := by unfold qus; rw [if_pos q1]
          rw [es, en, eu]
          rw [show qzz c be = -1 from if_pos q1] at bw
          have hl := hw'.2.2 at_ h2 (by omega)
          have hlr := hws at_ h2 (by omega)
          have co := r_cellOf e (qW S m) (ws at_ + 97) (by omega) (by omega)
          rw [show ws at_ + 97 - 97 = ws at_ by omega] at co
          obtain ⟨m1, r1, p1, f1⟩ := r_findsCell e (qW S m) (qlc (ws at_)) (at_ + 1) u C0 (by omega) hK hP' hF (by omega)
          simp (config := { maxSteps := 2000000 }) (disch := first | omega | (simp only [K_37 hK, K_64 hK, P_37_35 hP, P_37_35 hP', qb_in, qkW, qmW, qnW, true_and, and_true, or_self, true_or, or_true, and_self]; done) | (simp only [K_37 hK, K_64 hK, P_37_35 hP, P_37_35 hP', qb_in, qkW, qmW, qnW, true_and, and_true, or_self, true_or, or_true, and_self]; omega)) only [b222_0, b222_20, b222_27, b222_35, b222_41, b222_50, b222_59, b222_68, b222_71, b222_78, b222_83, b222_89, b222_103, b222_117, b222_130, b222_136, qcall_l, qcall_r, qretn_l, qJ_s, qJ_n, qV0, qEx, ↓qif0, ↓zchk_pos, ↓reduceIte, qput, qWW, qmW, qkW, qnW, K_37 hK, K_64 hK, P_37_35 hP, P_37_35 hP', e1, hl, if_pos (show at_ < n by omega), bw, co, r1, Int.reduceEq, q32]
          exact ih (at_ + 1) m1 _ u _ _ (by omega) (by omega) (by omega) (qfr_t' hf f1 (by decide) (by decide)) p1 (by rw [List.length_append]; show ((C0.length + 1 : Nat) : Int) ≤ _; omega)
        · have hbr : 0 ≤ be ∧ be < N := by
            rcases hbs with q | q
            · exact absurd q q1
            · exact ⟨q.1, q.2.1⟩
          have ht := hT be hbr.1 hbr.2
          obtain ⟨t0, t1, t2, t3, t4, t5⟩ := hc'.2.2.2 be hbr.1 hbr.2
          have hcr := hc.1
          have en : qnxt T be at_ = at_ + T 0 be := by unfold qnxt; rw [if_neg q1]
          have eu : qus be u = zor u (zshl 1 be) := by unfold qus; rw [if_neg q1]
          rw [en, eu]
          rw [en] at X1 X2 X3 X4
          rw [show qzz c be = 24 * c + be from if_neg q1] at bw
          obtain ⟨m1, r1, p1, f1⟩ := r_findsCell e (qW S m) (T 3 be) (at_ + T 0 be) u C0 (by omega) hK hP' hF (by omega)
          have hP1 : qP (qu m1 37 42 (zor u (zshl 1 be))) := qP_fr hP' (qfr_t' (A := [65, 66]) (J := [40, 42]) (qfr_m f1 (by decide) (by decide)) (qfr_j (A := [65, 66]) (J := [40, 42]) m1 42 (zor u (zshl 1 be)) (by decide)) (by decide) (by decide)) (by decide)
          have u1 := p1.2.1
          have u2 : m1 37 9 = 43 := (f1.2 9 (by decide)).trans (P_37_9 hP')
          have u3 : qu m1 37 42 (zor u (zshl 1 be)) 37 9 = 43 := by rw [qu_i _ _ _ _ _ (by decide), u2]
          have u4 : qu m1 37 42 (zor u (zshl 1 be)) 43 (24 * c + be) = T 4 be := by
            rw [qu_o _ _ _ _ _ (by decide), f1.1 43 (by decide) (by decide)]
            exact t4
          have f2 : qfr [65, 66] [40, 42] (zm S) (qu m1 37 42 (zor u (zshl 1 be))) := qfr_t' (qfr_t' hf f1 (by decide) (by decide)) (qfr_j (A := [65, 66]) (J := [40, 42]) _ _ _ (by decide)) (by decide) (by decide)
          have p1' : qFd (qu m1 37 42 (zor u (zshl 1 be))) (C0 ++ [(T 3 be, at_ + T 0 be)]) (zor u (zshl 1 be)) := ⟨by rw [qu_i _ _ _ _ _ (by decide)]; exact p1.1, qu_s _ _ _ _, qA_u p1.2.2.1 _ _ _ (Or.inl (by decide)), qA_u p1.2.2.2 _ _ _ (Or.inl (by decide))⟩
          by_cases q2 : T 4 be = 0
          · have es : qsc T ws be at_ = [(T 3 be, at_ + T 0 be)] := by unfold qsc; rw [if_neg q1, if_pos q2]
            rw [es] at X3 X4 ⊢
            simp (config := { maxSteps := 2000000 }) (disch := first | omega | (simp only [K_37 hK, K_41 hK, P_37_7 hP, K_42 hK, P_37_8 hP, K_43 hK, P_37_9 hP, P_37_7 hP', P_37_8 hP', u3, qb_in, qkW, qmW, qnW, true_and, and_true, or_self, true_or, or_true, and_self]; done) | (simp only [K_37 hK, K_41 hK, P_37_7 hP, K_42 hK, P_37_8 hP, K_43 hK, P_37_9 hP, P_37_7 hP', P_37_8 hP', u3, qb_in, qkW, qmW, qnW, true_and, and_true, or_self, true_or, or_true, and_self]; omega)) only [b222_0, b222_20, b222_27, b222_35, b222_41, b222_50, b222_59, b222_68, b222_71, b222_78, b222_83, b222_89, b222_103, b222_117, b222_130, b222_136, qcall_l, qcall_r, qretn_l, qJ_s, qJ_n, qV0, qEx, ↓qif0, ↓zchk_pos, ↓reduceIte, qput, qWW, qmW, qkW, qnW, K_37 hK, K_41 hK, P_37_7 hP, K_42 hK, P_37_8 hP, K_43 hK, P_37_9 hP, P_37_7 hP', P_37_8 hP', e1, t0, t3, u1, u2, u3, u4, if_pos (show at_ < n by omega), bw, if_neg (show ¬ 24 * c + be = -1 by omega), r1, q32, show 24 * c + be - 24 * c = be by omega, if_pos q2]
            exact ih (at_ + T 0 be) _ _ _ _ _ (by omega) (by omega) (by omega) f2 p1' (by rw [List.length_append]; show ((C0.length + 1 : Nat) : Int) ≤ _; omega)
          · have es : qsc T ws be at_ = [(T 3 be, at_ + T 0 be), (T 4 be, at_ + T 0 be)] := by unfold qsc; rw [if_neg q1, if_neg q2]
            rw [es] at X3 X4 ⊢
            obtain ⟨m2, r2, p2, f3⟩ := r_findsCell e (qW S (qu m1 37 42 (zor u (zshl 1 be)))) (T 4 be) (at_ + T 0 be) _ _ (by omega) hK hP1 p1' (by rw [List.length_append]; show C0.length + 1 < 16; omega)
            simp (config := { maxSteps := 2000000 }) (disch := first | omega | (simp only [K_37 hK, K_41 hK, P_37_7 hP, K_42 hK, P_37_8 hP, K_43 hK, P_37_9 hP, P_37_7 hP', P_37_8 hP', u3, qb_in, qkW, qmW, qnW, true_and, and_true, or_self, true_or, or_true, and_self]; done) | (simp only [K_37 hK, K_41 hK, P_37_7 hP, K_42 hK, P_37_8 hP, K_43 hK, P_37_9 hP, P_37_7 hP', P_37_8 hP', u3, qb_in, qkW, qmW, qnW, true_and, and_true, or_self, true_or, or_true, and_self]; omega)) only [b222_0, b222_20, b222_27, b222_35, b222_41, b222_50, b222_59, b222_68, b222_71, b222_78, b222_83, b222_89, b222_103, b222_117, b222_130, b222_136, qcall_l, qcall_r, qretn_l, qJ_s, qJ_n, qV0, qEx, ↓qif0, ↓zchk_pos, ↓reduceIte, qput, qWW, qmW, qkW, qnW, K_37 hK, K_41 hK, P_37_7 hP, K_42 hK, P_37_8 hP, K_43 hK, P_37_9 hP, P_37_7 hP', P_37_8 hP', e1, t0, t3, u1, u2, u3, u4, if_pos (show at_ < n by omega), bw, if_neg (show ¬ 24 * c + be = -1 by omega), r1, r2, q32, show 24 * c + be - 24 * c = be by omega, if_neg q2]
            rw [List.append_assoc] at p2
            exact ih (at_ + T 0 be) _ _ _ _ _ (by omega) (by omega) (by omega) (qfr_t' f2 f3 (by decide) (by decide)) p2 (by rw [List.length_append]; show ((C0.length + 2 : Nat) : Int) ≤ _; omega)
  have hF0 : qFd (qu (qu (zm S) 37 40 0) 37 42 0) [] 0 := ⟨by rw [qu_i _ _ _ _ _ (by decide), qu_s]; rfl, qu_s _ _ _ _, qA_nil _ _, qA_nil _ _⟩
  obtain ⟨m', r, p, f⟩ := lp n.toNat 0 (qu (qu (zm S) 37 40 0) 37 42 0) [] 0 vu vu (by omega) (by omega) (by omega) (qfr_t' (qfr_j _ _ _ (by decide)) (qfr_j (A := [65, 66]) (J := [40, 42]) _ _ _ (by decide)) (by decide) (by decide)) hF0 (by show (0 : Int) ≤ 0; omega)
  refine ⟨m', ?_, p, f⟩
  simp (config := { maxSteps := 2000000 }) (disch := first | omega | (simp only [K_37 hK, qb_in, qkW, qmW, qnW, true_and, and_true, or_self, true_or, or_true, and_self]; done) | (simp only [K_37 hK, qb_in, qkW, qmW, qnW, true_and, and_true, or_self, true_or, or_true, and_self]; omega)) only [zD_222, b222_0, b222_20, b222_27, b222_35, b222_41, b222_50, b222_59, b222_68, b222_71, b222_78, b222_83, b222_89, b222_103, b222_117, b222_130, b222_136, qcall_l, qcall_r, qretn_l, qJ_s, qJ_n, qV0, qEx, ↓qif0, ↓zchk_pos, ↓reduceIte, qput, qWW, qmW, qkW, qnW, K_37 hK, r]
