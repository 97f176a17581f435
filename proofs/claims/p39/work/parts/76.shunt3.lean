/-! The reference's tree is the one that is read. -/
theorem qTv_f {S : zS} {m m' : Int → Int → Int} {t : Int → Int} {n b : Int} (h : qTv (qW S m) t n) (f : qFt b m m') : qTv (qW S m') t n := by
  obtain ⟨h1, h2, h3, h4⟩ := h
  exact ⟨h1, by show m' 37 1 = 38; rw [f.1.2 1 (by decide)]; exact h2, by show m' 37 2 = n; rw [f.1.2 2 (by decide)]; exact h3, by show m' 38 = t; rw [f.1.1 38 (by decide) (by decide)]; exact h4⟩
theorem r_push (e : Nat) (S : zS) (p c b : Int) (H W : List Int) (m : Int → Int → Int) (x3 : zV) (hK : qK S) (hP : qP m) (hs : qTs m b H W) (hW : W.length < 128) (hc : 0 ≤ c ∧ c < 65536) (hp : 0 ≤ p ∧ p ≤ 60) :
    ∃ m', zF_240 e 196 [vr 37, vi p, vi c, x3] [] (qW S m) = zF_240 e 17 [vr 37, vi (p + 1), vu, vu] [] (qW S m') ∧ qTs m' b H (W ++ [c]) ∧ qFt b m m' := by
  obtain ⟨h1, h2, h3, h4, h5⟩ := hs
  have ec : c % 65536 = c := by omega
  have e1 : qu m 99 W.length c 37 = m 37 := qu_o _ _ _ _ _ (by decide)
  refine ⟨qu (qu m 99 W.length c) 37 90 (W.length + 1), ?_, ⟨?_, ?_, ?_, ?_, ?_⟩, ⟨?_, fun a i a1 a2 _ => ?_⟩⟩
  · rw [b240_196]
    simp (config := { maxSteps := 2000000 }) (disch := first | omega | (simp only [K_37 hK, K_99 hK, P_37_89 hP, P_37_89 hP, h3, e1, qb_in, qkW, qmW, qnW, true_and, and_true, or_self, true_or, or_true, and_self]; done) | (simp only [K_37 hK, K_99 hK, P_37_89 hP, P_37_89 hP, h3, e1, qb_in, qkW, qmW, qnW, true_and, and_true, or_self, true_or, or_true, and_self]; omega)) only [b240_0, b240_16, b240_25, b240_30, b240_35, b240_38, b240_45, b240_48, b240_51, b240_57, b240_67, b240_70, b240_74, b240_77, b240_85, b240_88, b240_110, b240_114, b240_117, b240_130, b240_134, b240_141, b240_148, b240_162, b240_166, b240_180, b240_184, b240_189, b240_193, b240_196, b240_212, b240_216, b240_219, b240_229, b240_233, b240_236, qcall_l, qcall_r, qretn_l, qJ_s, qJ_n, qV0, qEx, ↓qif0, ↓zchk_pos, ↓reduceIte, qput, qWW, qmW, qkW, qnW, K_37 hK, K_99 hK, P_37_89 hP, P_37_89 hP, h3, ec, e1, q32]
  · rw [qu_i _ _ _ _ _ (by decide), e1, h1]
  · rw [qu_i _ _ _ _ _ (by decide), e1, h2]
  · rw [qu_s, List.length_append]; rfl
  · exact qA_u (qA_u h4 _ _ _ (Or.inl (by decide))) _ _ _ (Or.inl (by decide))
  · exact qA_o (qA_push h5 c) (qu_o _ _ _ _ _ (by decide))
  · exact qfr_t' (qfr_a _ _ _ _ (by decide) (by decide)) (qfr_j (A := [95, 96, 97, 98, 99]) (J := [83, 88, 90]) _ _ _ (by decide)) (fun _ h => h) fun _ h => h
  · rw [qu_o _ _ _ _ _ (by omega), qu_o _ _ _ _ _ (by omega)]
theorem r_atOp (e : Nat) (S : zS) (t : Int → Int) (n p : Int) (m : Int → Int → Int) (x2 x3 : zV) (he : 2 ≤ e) (hn : n ≤ 60) (hr : ∀ i, 0 ≤ i → i < n → 0 ≤ t i ∧ t i < 65536) (hv : qTv (qW S m) t n) (hp : 0 ≤ p ∧ p < n) (hc : qjn (t p) ∨ t p = 40) : zF_240 e 17 [vr 37, vi p, x2, x3] [] (qW S m) = zF_240 e 135 [vr 37, vi p, vi (t p), vi (qbd (t p))] [] (qW S m) := by
  have hK : qK S := hv.1
  have sg := v_signAt e (qW S m) p t n hn hr (by omega) hp.1 hv
  rw [qsg_lt hp.2] at sg
  have g2 : m 37 2 = n := hv.2.2.1
  have i1 := r_isDigit e (t p) (qW S m) (by omega)
  have i2 := r_isSmall e (t p) (qW S m) (by omega)
  have bo := r_bindsOf e (qW S m) (t p) (by omega)
  rw [qb_n (by omega)] at i1 i2
  rw [b240_17]
  simp (config := { maxSteps := 2000000 }) (disch := first | omega | (simp only [K_37 hK, qb_in, qkW, qmW, qnW, true_and, and_true, or_self, true_or, or_true, and_self]; done) | (simp only [K_37 hK, qb_in, qkW, qmW, qnW, true_and, and_true, or_self, true_or, or_true, and_self]; omega)) only [b240_0, b240_16, b240_25, b240_30, b240_35, b240_38, b240_45, b240_48, b240_51, b240_57, b240_67, b240_70, b240_74, b240_77, b240_85, b240_88, b240_110, b240_114, b240_117, b240_130, b240_134, b240_141, b240_148, b240_162, b240_166, b240_180, b240_184, b240_189, b240_193, b240_196, b240_212, b240_216, b240_219, b240_229, b240_233, b240_236, qcall_l, qcall_r, qretn_l, qJ_s, qJ_n, qV0, qEx, ↓qif0, ↓zchk_pos, ↓reduceIte, qput, qWW, qmW, qkW, qnW, K_37 hK, g2, if_pos hp.2, sg, i1, i2, Int.reduceEq, if_neg (show ¬ t p = 41 by omega), bo]
theorem r_atLetter (e : Nat) (S : zS) (t : Int → Int) (n p b : Int) (H W : List Int) (m : Int → Int → Int) (x2 x3 : zV) (he : 2 ≤ e) (hn : n ≤ 60) (hr : ∀ i, 0 ≤ i → i < n → 0 ≤ t i ∧ t i < 65536) (hv : qTv (qW S m) t n) (hP : qP m) (hp : 0 ≤ p ∧ p < n) (hc : qsm (t p)) (hs : qTs m b H W) (hb : 0 ≤ b ∧ b < 32) (hH : H.length < 64) :
    ∃ m', zF_240 e 17 [vr 37, vi p, x2, x3] [] (qW S m) = zF_240 e 17 [vr 37, vi (p + 1), vu, vu] [] (qW S m') ∧ qTs m' (b + 1) (H ++ [b]) W ∧ qrr m' t n (qAt (96 - t p)) b ∧ qFt b m m' := by
  have hK : qK S := hv.1
  have sg := v_signAt e (qW S m) p t n hn hr (by omega) hp.1 hv
  rw [qsg_lt hp.2] at sg
  have g2 : m 37 2 = n := hv.2.2.1
  have i1 := r_isDigit e (t p) (qW S m) (by omega)
  have i2 := r_isSmall e (t p) (qW S m) (by omega)
  rw [qb_n (by omega)] at i1
  rw [qb_p hc] at i2
  obtain ⟨m', r, s1, u1, u2, u3, f⟩ := r_grows e (qW S m) b 97 (t p) 0 H W (by omega) hK hP hs hb hH (by decide)
  refine ⟨m', ?_, s1, ?_, f⟩
  · rw [b240_17]
    simp (config := { maxSteps := 2000000 }) (disch := first | omega | (simp only [K_37 hK, qb_in, qkW, qmW, qnW, true_and, and_true, or_self, true_or, or_true, and_self]; done) | (simp only [K_37 hK, qb_in, qkW, qmW, qnW, true_and, and_true, or_self, true_or, or_true, and_self]; omega)) only [b240_0, b240_16, b240_25, b240_30, b240_35, b240_38, b240_45, b240_48, b240_51, b240_57, b240_67, b240_70, b240_74, b240_77, b240_85, b240_88, b240_110, b240_114, b240_117, b240_130, b240_134, b240_141, b240_148, b240_162, b240_166, b240_180, b240_184, b240_189, b240_193, b240_196, b240_212, b240_216, b240_219, b240_229, b240_233, b240_236, qcall_l, qcall_r, qretn_l, qJ_s, qJ_n, qV0, qEx, ↓qif0, ↓zchk_pos, ↓reduceIte, qput, qWW, qmW, qkW, qnW, K_37 hK, g2, if_pos hp.2, sg, i1, i2, Int.reduceEq, r, q32]
  · rw [qrr_a, if_pos (by omega), u1, u2]
    exact ⟨rfl, by omega⟩
theorem r_atNumber (e : Nat) (S : zS) (t : Int → Int) (n p b : Int) (H W : List Int) (m : Int → Int → Int) (x2 x3 : zV) (k : Nat) (he : 2 ≤ e) (hn : n ≤ 60) (hr : ∀ i, 0 ≤ i → i < n → 0 ≤ t i ∧ t i < 65536) (hv : qTv (qW S m) t n) (hP : qP m) (hp : 0 ≤ p ∧ p + k ≤ n) (hk : 1 ≤ k ∧ k ≤ 4) (hd : ∀ j : Int, 0 ≤ j → j < k → qdg (qsy t n (p + j))) (he2 : ¬ qdg (qsy t n (p + k))) (hs : qTs m b H W) (hb : 0 ≤ b ∧ b < 32) (hH : H.length < 64) :
    ∃ m', zF_240 e 17 [vr 37, vi p, x2, x3] [] (qW S m) = zF_240 e 17 [vr 37, vi (p + k), vu, vu] [] (qW S m') ∧ qTs m' (b + 1) (H ++ [b]) W ∧ qrr m' t n (qAt (qnv (qsy t n) p k)) b ∧ qFt b m m' := by
  have hK : qK S := hv.1
  have g2 : m 37 2 = n := hv.2.2.1
  have hdt : ∀ j : Int, 0 ≤ j → j < k → qdg (t (p + j)) := fun j j1 j2 => by
    have := hd j j1 j2
    rw [qsy_i ⟨by omega, by omega⟩] at this
    exact this
  have sgl : ∀ j : Int, 0 ≤ j → j < k → zD e 199 [vr 37, vi (p + j)] (qW S m) = some (.inl (some (vi (t (p + j)))), qW S m) ∧ zD e 186 [vi (t (p + j))] (qW S m) = some (.inl (some (vi 1)), qW S m) := fun j j1 j2 => by
    have sg := v_signAt e (qW S m) (p + j) t n hn hr (by omega) (by omega) hv
    rw [qsg_lt (by omega)] at sg
    have i1 := r_isDigit e (t (p + j)) (qW S m) (by omega)
    rw [qb_p (hdt j j1 j2)] at i1
    exact ⟨sg, i1⟩
  have sge : ∃ c, zD e 199 [vr 37, vi (p + k)] (qW S m) = some (.inl (some (vi c)), qW S m) ∧ zD e 186 [vi c] (qW S m) = some (.inl (some (vi 0)), qW S m) := by
    have sg := v_signAt e (qW S m) (p + k) t n hn hr (by omega) (by omega) hv
    refine ⟨qsg t n (p + k), sg, ?_⟩
    have i1 := r_isDigit e (qsg t n (p + k)) (qW S m) (by omega)
    rw [qb_n (by
      by_cases c : p + k < n
      · rw [qsg_lt c]
        rw [qsy_i ⟨by omega, c⟩] at he2
        exact he2
      · rw [qsg_ge c]; decide)] at i1
    exact i1
  obtain ⟨c, sc, ic⟩ := sge
  obtain ⟨m', r, s1, u1, u2, u3, f⟩ := r_grows e (qW S m) b 48 p k H W (by omega) hK hP hs hb hH (by decide)
  have lp : ∀ (g i : Nat) (y2 : zV), i + g = k → zF_240 e 40 [vr 37, vi (p + i), y2, vi p] [] (qW S m) = zF_240 e 17 [vr 37, vi (p + k), vu, vu] [] (qW S m') := by
    intro g
    induction g with
    | zero =>
      intro i y2 h2
      have hi : i = k := by omega
      subst hi
      rw [b240_40]
      simp (config := { maxSteps := 2000000 }) (disch := first | omega | (simp only [K_37 hK, qb_in, qkW, qmW, qnW, true_and, and_true, or_self, true_or, or_true, and_self]; done) | (simp only [K_37 hK, qb_in, qkW, qmW, qnW, true_and, and_true, or_self, true_or, or_true, and_self]; omega)) only [b240_0, b240_16, b240_25, b240_30, b240_35, b240_38, b240_45, b240_48, b240_51, b240_57, b240_67, b240_70, b240_74, b240_77, b240_85, b240_88, b240_110, b240_114, b240_117, b240_130, b240_134, b240_141, b240_148, b240_162, b240_166, b240_180, b240_184, b240_189, b240_193, b240_196, b240_212, b240_216, b240_219, b240_229, b240_233, b240_236, qcall_l, qcall_r, qretn_l, qJ_s, qJ_n, qV0, qEx, ↓qif0, ↓zchk_pos, ↓reduceIte, qput, qWW, qmW, qkW, qnW, K_37 hK, sc, ic, Int.reduceEq, q32, show p + (i : Int) - p = i by omega, r]
    | succ g ih =>
      intro i y2 h2
      obtain ⟨a1, a2⟩ := sgl i (by omega) (by omega)
      have := ih (i + 1) vu (by omega)
      rw [show p + ((i + 1 : Nat) : Int) = p + i + 1 by omega] at this
      rw [b240_40]
      simp (config := { maxSteps := 2000000 }) (disch := first | omega | (simp only [K_37 hK, qb_in, qkW, qmW, qnW, true_and, and_true, or_self, true_or, or_true, and_self]; done) | (simp only [K_37 hK, qb_in, qkW, qmW, qnW, true_and, and_true, or_self, true_or, or_true, and_self]; omega)) only [b240_0, b240_16, b240_25, b240_30, b240_35, b240_38, b240_45, b240_48, b240_51, b240_57, b240_67, b240_70, b240_74, b240_77, b240_85, b240_88, b240_110, b240_114, b240_117, b240_130, b240_134, b240_141, b240_148, b240_162, b240_166, b240_180, b240_184, b240_189, b240_193, b240_196, b240_212, b240_216, b240_219, b240_229, b240_233, b240_236, qcall_l, qcall_r, qretn_l, qJ_s, qJ_n, qV0, qEx, ↓qif0, ↓zchk_pos, ↓reduceIte, qput, qWW, qmW, qkW, qnW, K_37 hK, a1, a2, Int.reduceEq, q32]
      exact this
  obtain ⟨a1, a2⟩ := sgl 0 (by decide) (by omega)
  rw [Int.add_zero] at a1 a2
  have l0 := lp k 0 vu (by omega)
  rw [show p + ((0 : Nat) : Int) = p by omega] at l0
  refine ⟨m', ?_, s1, ?_, f⟩
  · rw [b240_17]
    simp (config := { maxSteps := 2000000 }) (disch := first | omega | (simp only [K_37 hK, qb_in, qkW, qmW, qnW, true_and, and_true, or_self, true_or, or_true, and_self]; done) | (simp only [K_37 hK, qb_in, qkW, qmW, qnW, true_and, and_true, or_self, true_or, or_true, and_self]; omega)) only [b240_0, b240_16, b240_25, b240_30, b240_35, b240_38, b240_45, b240_48, b240_51, b240_57, b240_67, b240_70, b240_74, b240_77, b240_85, b240_88, b240_110, b240_114, b240_117, b240_130, b240_134, b240_141, b240_148, b240_162, b240_166, b240_180, b240_184, b240_189, b240_193, b240_196, b240_212, b240_216, b240_219, b240_229, b240_233, b240_236, qcall_l, qcall_r, qretn_l, qJ_s, qJ_n, qV0, qEx, ↓qif0, ↓zchk_pos, ↓reduceIte, qput, qWW, qmW, qkW, qnW, K_37 hK, g2, if_pos (show p < n by omega), a1, a2, Int.reduceEq]
    exact l0
  · have hz := qnv_z (qsy t n) p k hk hd
    have hz2 := qnv_r (qsy t n) p k hk.2 hd k (Nat.le_refl _)
    rw [qrr_a, if_neg (by omega), u1, u2, u3]
    exact ⟨rfl, k, hk, rfl, hp.1, hp.2, hd, rfl⟩
theorem r_atClose (e : Nat) (S : zS) (t : Int → Int) (n p : Int) (m : Int → Int → Int) (x2 x3 : zV) (he : 2 ≤ e) (hn : n ≤ 60) (hr : ∀ i, 0 ≤ i → i < n → 0 ≤ t i ∧ t i < 65536) (hv : qTv (qW S m) t n) (hp : 0 ≤ p ∧ p < n) (hc : t p = 41) : zF_240 e 17 [vr 37, vi p, x2, x3] [] (qW S m) = zF_240 e 94 [vr 37, vi p, vi 41, vu] [] (qW S m) := by
  have hK : qK S := hv.1
  have sg := v_signAt e (qW S m) p t n hn hr (by omega) hp.1 hv
  rw [qsg_lt hp.2, hc] at sg
  have g2 : m 37 2 = n := hv.2.2.1
  have i1 := r_isDigit e 41 (qW S m) (by omega)
  have i2 := r_isSmall e 41 (qW S m) (by omega)
  rw [qb_n (by omega)] at i1 i2
  rw [b240_17]
  simp (config := { maxSteps := 2000000 }) (disch := first | omega | (simp only [K_37 hK, qb_in, qkW, qmW, qnW, true_and, and_true, or_self, true_or, or_true, and_self]; done) | (simp only [K_37 hK, qb_in, qkW, qmW, qnW, true_and, and_true, or_self, true_or, or_true, and_self]; omega)) only [b240_0, b240_16, b240_25, b240_30, b240_35, b240_38, b240_45, b240_48, b240_51, b240_57, b240_67, b240_70, b240_74, b240_77, b240_85, b240_88, b240_110, b240_114, b240_117, b240_130, b240_134, b240_141, b240_148, b240_162, b240_166, b240_180, b240_184, b240_189, b240_193, b240_196, b240_212, b240_216, b240_219, b240_229, b240_233, b240_236, qcall_l, qcall_r, qretn_l, qJ_s, qJ_n, qV0, qEx, ↓qif0, ↓zchk_pos, ↓reduceIte, qput, qWW, qmW, qkW, qnW, K_37 hK, g2, if_pos hp.2, sg, i1, i2, Int.reduceEq]
theorem r_closed (e : Nat) (S : zS) (p b : Int) (H W : List Int) (m : Int → Int → Int) (hK : qK S) (hs : qTs m b H (W ++ [40])) (hW : W.length < 128) (hp : 0 ≤ p ∧ p ≤ 60) :
    ∃ m', zF_240 e 117 [vr 37, vi p, vu, vu] [] (qW S m) = zF_240 e 17 [vr 37, vi (p + 1), vu, vu] [] (qW S m') ∧ qTs m' b H W ∧ qFt b m m' := by
  obtain ⟨g1, g2⟩ := qTs_t hs
  obtain ⟨h1, h2, h3, h4, h5⟩ := hs
  refine ⟨qu m 37 90 W.length, ?_, ⟨by rw [qu_i _ _ _ _ _ (by decide)]; exact h1, by rw [qu_i _ _ _ _ _ (by decide)]; exact h2, qu_s _ _ _ _, qA_u h4 _ _ _ (Or.inl (by decide)), qA_l (qA_u h5 _ _ _ (Or.inl (by decide)))⟩, ⟨qfr_j _ _ _ (by decide), fun a i a1 a2 _ => by rw [qu_o _ _ _ _ _ (by omega)]⟩⟩
  rw [b240_117]
  simp (config := { maxSteps := 2000000 }) (disch := first | omega | (simp only [K_37 hK, qb_in, qkW, qmW, qnW, true_and, and_true, or_self, true_or, or_true, and_self]; done) | (simp only [K_37 hK, qb_in, qkW, qmW, qnW, true_and, and_true, or_self, true_or, or_true, and_self]; omega)) only [b240_0, b240_16, b240_25, b240_30, b240_35, b240_38, b240_45, b240_48, b240_51, b240_57, b240_67, b240_70, b240_74, b240_77, b240_85, b240_88, b240_110, b240_114, b240_117, b240_130, b240_134, b240_141, b240_148, b240_162, b240_166, b240_180, b240_184, b240_189, b240_193, b240_196, b240_212, b240_216, b240_219, b240_229, b240_233, b240_236, qcall_l, qcall_r, qretn_l, qJ_s, qJ_n, qV0, qEx, ↓qif0, ↓zchk_pos, ↓reduceIte, qput, qWW, qmW, qkW, qnW, K_37 hK, g1, q32, show (W.length : Int) + 1 - 1 = W.length by omega]
/-- an atom is taken -/
def qBa (S : zS) (t : Int → Int) (n : Int) (e : Nat) (m : Int → Int → Int) (p q b : Int) (H W : List Int) (x : qTree) (x2 x3 : zV) : Prop := ∃ m' y2 y3 r, zF_240 e 17 [vr 37, vi p, x2, x3] [] (qW S m) = zF_240 e 17 [vr 37, vi q, y2, y3] [] (qW S m') ∧ qTs m' (b + qsz x) (H ++ [r]) W ∧ (0 ≤ r ∧ r < b + qsz x) ∧ qrr m' t n x r ∧ qFt b m m'
/-- something is taken, joins wait -/
def qBp (S : zS) (t : Int → Int) (n : Int) (e : Nat) (m : Int → Int → Int) (p q b L : Int) (H W : List Int) (x : qTree) (x2 x3 : zV) : Prop := ∃ m' y2 y3 fr h xk bb, zF_240 e 17 [vr 37, vi p, x2, x3] [] (qW S m) = zF_240 e 17 [vr 37, vi q, y2, y3] [] (qW S m') ∧ qPe m' t n W H fr h xk bb ∧ x = qfl fr xk ∧ bb + fr.length = b + qsz x ∧ b ≤ bb ∧ (∀ w ∈ fr, L ≤ qbd (w.1 : Int)) ∧ qFt b m m' ∧ (W.length : Int) + fr.length ≤ q ∧ (H.length : Int) + fr.length + 1 ≤ q
theorem qPe_n {m : Int → Int → Int} {t : Int → Int} {n : Int} {W H : List Int} {h : Int} {x : qTree} {bb : Int} (hs : qTs m bb (H ++ [h]) W) (hh : 0 ≤ h ∧ h < bb) (hr : qrr m t n x h) (hw : qwf x) : qPe m t n W H [] h x bb := by
  have q : H ++ qhs [] ++ [h] = H ++ [h] := by simp [qhs]
  have q2 : W ++ qws [] = W := by simp [qws]
  exact ⟨by rw [q, q2]; exact hs, hh, hr, hw, fun w hw => by simp at hw⟩
theorem qPe_0 {m : Int → Int → Int} {t : Int → Int} {n : Int} {W H : List Int} {h : Int} {x : qTree} {bb : Int} (hp : qPe m t n W H [] h x bb) : qTs m bb (H ++ [h]) W := by
  have q : H ++ qhs [] ++ [h] = H ++ [h] := by simp [qhs]
  have q2 : W ++ qws [] = W := by simp [qws]
  have := hp.1
  rw [q, q2] at this
  exact this
/-- what waits behind one join more -/
theorem qPe_c {m : Int → Int → Int} {t : Int → Int} {n : Int} {W H : List Int} {fr : List (Nat × Int × qTree)} {h : Int} {x l : qTree} {bb r : Int} {w : Nat} {c : Int} (hp : qPe m t n (W ++ [c]) (H ++ [r]) fr h x bb) (hc : c = (w : Int)) (hj : qjn (w : Int)) (hr : 0 ≤ r ∧ r < bb) (hl : qrr m t n l r) (hw : qwf l) : qPe m t n W H ((w, r, l) :: fr) h x bb := by
  obtain ⟨p1, p2, p3, p4, p5⟩ := hp
  have e1 : H ++ qhs ((w, r, l) :: fr) ++ [h] = H ++ [r] ++ qhs fr ++ [h] := by simp [qhs]
  have e2 : W ++ qws ((w, r, l) :: fr) = W ++ [c] ++ qws fr := by simp [qws, hc]
  refine ⟨by rw [e1, e2]; exact p1, p2, p3, p4, fun v hv => ?_⟩
  rcases List.mem_cons.mp hv with rfl | hv
  · exact ⟨hj, hr, hl, hw⟩
  · exact p5 v hv
abbrev qtop (W : List Int) (be : Int) : Prop := W = [] ∨ ∃ K a, W = K ++ [a] ∧ qbd a < be
theorem qtop_s (W : List Int) (c be : Int) (h : qbd c < be) : qtop (W ++ [c]) be := Or.inr ⟨W, c, rfl, h⟩
