/-! The class spells a word from the tape: all of it. -/
theorem qWd_n (t : Int → Int) (n i k e c : Int) (hn : 0 ≤ n) (hw : qWd (qsg t n) i k e c) : e ≤ n ∧ k < n ∧ qeo (qsg t n) i ≤ n ∧
    ((c = 3 ∧ e - k ≤ 6 ∧ ∀ j, k ≤ j → j < e → qdg (t j)) ∨ (e - k ≤ 10 ∧ ((c = 0 ∧ ∀ j, k ≤ j → j < e → qsm (t j)) ∨ (c = 1 ∧ qbg (t k) ∧ ∀ j, k < j → j < e → qsm (t j)) ∨ (c = 2 ∧ k + 1 < e ∧ ∀ j, k ≤ j → j < e → qbg (t j))))) := by
  obtain ⟨hk, hke, hE, hc⟩ := hw
  have nz : ∀ j, k ≤ j → j < e → qsg t n j ≠ 0 := fun j h1 h2 => by
    rcases hc with ⟨-, -, hc⟩ | ⟨-, ⟨-, hc⟩ | ⟨-, hc1, hc2⟩ | ⟨-, -, hc⟩⟩
    · have := hc j h1 h2; omega
    · have := hc j h1 h2; omega
    · by_cases e1 : j = k
      · rw [e1]; omega
      · have := hc2 j (by omega) h2; omega
    · have := hc j h1 h2; omega
  have lt : ∀ j, k ≤ j → j < e → j < n := fun j h1 h2 => by
    by_cases hl : j < n
    · exact hl
    · exact absurd (qsg_ge hl) (nz j h1 h2)
  have le := lt (e - 1) (by omega) (by omega)
  have lk := lt k (by omega) (by omega)
  refine ⟨by omega, lk, ?_, ?_⟩
  · rw [hE]
    by_cases hm : qmk (qsg t n e)
    · have : e < n := by
        by_cases hl : e < n
        · exact hl
        · rw [qsg_ge hl] at hm
          omega
      have := qb_r (qmk (qsg t n e))
      omega
    · rw [qb_n hm]
      omega
  · rcases hc with ⟨h1, h2, hc⟩ | ⟨h1, ⟨h2, hc⟩ | ⟨h2, hc1, hc2⟩ | ⟨h2, h3, hc⟩⟩
    · exact Or.inl ⟨h1, h2, fun j h3 h4 => by have := hc j h3 h4; rw [qsg_lt (lt j h3 h4)] at this; exact this⟩
    · exact Or.inr ⟨h1, Or.inl ⟨h2, fun j h3 h4 => by have := hc j h3 h4; rw [qsg_lt (lt j h3 h4)] at this; exact this⟩⟩
    · rw [qsg_lt lk] at hc1
      exact Or.inr ⟨h1, Or.inr (Or.inl ⟨h2, hc1, fun j h3 h4 => by have := hc2 j h3 h4; rw [qsg_lt (lt j (by omega) h4)] at this; exact this⟩)⟩
    · exact Or.inr ⟨h1, Or.inr (Or.inr ⟨h2, h3, fun j h3 h4 => by have := hc j h3 h4; rw [qsg_lt (lt j h3 h4)] at this; exact this⟩)⟩
theorem s_spEnd (d : Nat) (S : zS) (h : 2 ≤ d) (M : Int → Int → Int) (t : Int → Int) (n a E : Int) (x1 x4 : zV) (hK : qK S) (p1 : M 4 0 = 5) (p2 : M 4 1 = n) (p3 : M 5 = t) (hn : n ≤ 60) (h0 : 0 ≤ E) (hE : E ≤ n) (hx : E < n → qpt (t E)) :
    zF_97 d 10 [vr 4, x1, vr a, vi E, x4] [] (qW S M) = some (.inl (some (vi E)), qW S M) := by
  rw [b97_10]
  by_cases hl : E < n
  · simp (config := { maxSteps := 2000000 }) (disch := first | omega | (simp only [K_4 hK, K_5 hK, p1, qb_in, qkW, qmW, qnW, true_and, and_true, or_self, true_or, or_true, and_self]; done) | (simp only [K_4 hK, K_5 hK, p1, qb_in, qkW, qmW, qnW, true_and, and_true, or_self, true_or, or_true, and_self]; omega)) only [b97_0, b97_4, b97_18, b97_31, b97_64, b97_72, b97_81, b97_85, b97_94, b97_112, b97_121, b97_130, b97_136, b97_142, b97_144, b97_150, i97, w97_31, qcall_l, qcall_r, qretn_l, qJ_s, qJ_n, qV0, qEx, ↓qif0, ↓zchk_pos, ↓reduceIte, qput, qWW, qmW, qkW, qnW, K_4 hK, K_5 hK, p1, p2, p3, if_pos hl, s_kindOf, qkd_p (hx hl), Int.reduceEq]
  · rw [show E = n by omega]
    simp (config := { maxSteps := 2000000 }) (disch := first | omega | (simp only [K_4 hK, qb_in, qkW, qmW, qnW, true_and, and_true, or_self, true_or, or_true, and_self]; done) | (simp only [K_4 hK, qb_in, qkW, qmW, qnW, true_and, and_true, or_self, true_or, or_true, and_self]; omega)) only [b97_0, b97_4, b97_18, b97_31, b97_64, b97_72, b97_81, b97_85, b97_94, b97_112, b97_121, b97_130, b97_136, b97_142, b97_144, b97_150, i97, w97_31, qcall_l, qcall_r, qretn_l, qJ_s, qJ_n, qV0, qEx, ↓qif0, ↓zchk_pos, ↓reduceIte, qput, qWW, qmW, qkW, qnW, K_4 hK, K_5 hK, p1, p2, p3, if_neg (show ¬ n < n by omega)]
theorem s_spell (d : Nat) (S : zS) (h : 4 ≤ d) (hK : qK S) (n a b i k e c : Int) (p1 : zm S 4 0 = 5) (p2 : zm S 4 1 = n) (hn : 0 ≤ n ∧ n ≤ 60) (ka : zk S a = (28, 0)) (kb : zk S b = (0, 10)) (pa : zm S a 0 = b) (h0 : 0 ≤ i) (hw : qWd (qsg (zm S 5) n) i k e c) (hx : qeo (qsg (zm S 5) n) i < n → qpt (zm S 5 (qeo (qsg (zm S 5) n) i))) :
    zD d 97 [vr 4, vi i, vr a] S = some (.inl (some (vi (qeo (qsg (zm S 5) n) i))), qW S (qSp (zm S) a b (e - k) (qb (qsg (zm S 5) n i = 42)) (qb (c = 3)) (if c = 3 then 0 else c) (qmc (qsg (zm S 5) n e)) (qsn (zm S 5) k c))) := by
  obtain ⟨d, rfl, h1⟩ := qd h
  obtain ⟨g1, g2, g3, g4⟩ := qWd_n _ _ _ _ _ _ hn.1 hw
  obtain ⟨hk, hke, hE, -⟩ := hw
  have hb := qb_r (qsg (zm S 5) n i = 42)
  have n4 : (4 : Int) ≠ a := fun q => by rw [← q, K_4 hK] at ka; exact absurd ka (by decide)
  have n4b : (4 : Int) ≠ b := fun q => by rw [← q, K_4 hK] at kb; exact absurd kb (by decide)
  have n5 : (5 : Int) ≠ a := fun q => by rw [← q, K_5 hK] at ka; exact absurd ka (by decide)
  have n5b : (5 : Int) ≠ b := fun q => by rw [← q, K_5 hK] at kb; exact absurd kb (by decide)
  have mx : (if (0 : Int) < i then i else 0) = i := by split <;> omega
  have cl := s_spClear d S a b (qsn (zm S 5) k c) (by omega) ka
  have z0 : ∀ st, qSp (zm S) a b 0 st 0 0 0 (qsn (zm S 5) k c) = qSp (zm S) a b (k - k) st (qb (c = 3 ∧ k < k)) (qbc c k k) 0 (qsn (zm S 5) k c) := fun st => by
    rw [qb_n (show ¬ (c = 3 ∧ k < k) by omega), show k - k = 0 by omega, show qbc c k k = 0 by unfold qbc; repeat' split; all_goals omega]
  have st1 : ∃ x1 x4 : zV, zF_97 d 0 [vr 4, vi i, vr a, vu, vu] [] S = zF_97 d 10 [vr 4, x1, vr a, vi k, x4] [] (qW S (qSp (zm S) a b 0 (qb (qsg (zm S 5) n i = 42)) 0 0 0 (qsn (zm S 5) k c))) := by
    by_cases hs : qsg (zm S 5) n i = 42
    · have hl : i < n := by omega
      have hs2 : zm S 5 i = 42 := by rw [qsg_lt hl] at hs; exact hs
      rw [qb_p hs] at hk ⊢
      refine ⟨vu, vu, ?_⟩
      simp (config := { maxSteps := 2000000 }) (disch := first | omega | (simp only [ka, qb_in, qkW, qmW, qnW, true_and, and_true, or_self, true_or, or_true, and_self]; done) | (simp only [ka, qb_in, qkW, qmW, qnW, true_and, and_true, or_self, true_or, or_true, and_self]; omega)) only [b97_0, b97_4, b97_18, b97_31, b97_64, b97_72, b97_81, b97_85, b97_94, b97_112, b97_121, b97_130, b97_136, b97_142, b97_144, b97_150, i97, w97_31, qcall_l, qcall_r, qretn_l, qJ_s, qJ_n, qV0, qEx, ↓qif0, ↓zchk_pos, ↓reduceIte, qput, qWW, qmW, qkW, qnW, ka, cl, mx]
      rw [b97_10]
      have f4 : qSp (zm S) a b 0 0 0 0 0 (qsn (zm S 5) k c) 4 = zm S 4 := qSp_o _ _ _ _ _ _ _ _ _ _ n4 n4b
      have f5 : qSp (zm S) a b 0 0 0 0 0 (qsn (zm S 5) k c) 5 = zm S 5 := qSp_o _ _ _ _ _ _ _ _ _ _ n5 n5b
      simp (config := { maxSteps := 2000000 }) (disch := first | omega | (simp only [K_4 hK, K_5 hK, f4, f5, p1, ka, qb_in, qkW, qmW, qnW, true_and, and_true, or_self, true_or, or_true, and_self]; done) | (simp only [K_4 hK, K_5 hK, f4, f5, p1, ka, qb_in, qkW, qmW, qnW, true_and, and_true, or_self, true_or, or_true, and_self]; omega)) only [b97_0, b97_4, b97_18, b97_31, b97_64, b97_72, b97_81, b97_85, b97_94, b97_112, b97_121, b97_130, b97_136, b97_142, b97_144, b97_150, i97, w97_31, qcall_l, qcall_r, qretn_l, qJ_s, qJ_n, qV0, qEx, ↓qif0, ↓zchk_pos, ↓reduceIte, qput, qWW, qmW, qkW, qnW, K_4 hK, K_5 hK, f4, f5, p1, p2, hs2, if_pos hl, s_kindOf, qkd_42, Int.reduceEq, q32, ka, qSp_u2]
      rw [show i + 1 = k from hk.symm]
    · rw [qb_n hs] at hk ⊢
      refine ⟨vi i, vu, ?_⟩
      simp (config := { maxSteps := 2000000 }) (disch := first | omega | (simp only [ka, qb_in, qkW, qmW, qnW, true_and, and_true, or_self, true_or, or_true, and_self]; done) | (simp only [ka, qb_in, qkW, qmW, qnW, true_and, and_true, or_self, true_or, or_true, and_self]; omega)) only [b97_0, b97_4, b97_18, b97_31, b97_64, b97_72, b97_81, b97_85, b97_94, b97_112, b97_121, b97_130, b97_136, b97_142, b97_144, b97_150, i97, w97_31, qcall_l, qcall_r, qretn_l, qJ_s, qJ_n, qV0, qEx, ↓qif0, ↓zchk_pos, ↓reduceIte, qput, qWW, qmW, qkW, qnW, ka, cl, mx]
      rw [show i = k by omega]
  obtain ⟨x1, x4, st1⟩ := st1
  rw [zD_97, st1, z0]
  obtain ⟨y1, y4, lp⟩ := s_spLoop d S h1 (zm S) (zm S 5) n a b (qb (qsg (zm S 5) n i = 42)) k e c hK p1 p2 rfl hn.2 ka kb pa (by omega) g1 g4 (e - k).toNat k x1 x4 (by omega) (by omega)
  rw [lp, show qb (c = 3 ∧ k < e) = qb (c = 3) from by
    by_cases h3 : c = 3
    · rw [qb_p (show c = 3 ∧ k < e from ⟨h3, hke⟩), qb_p h3]
    · rw [qb_n (fun q : c = 3 ∧ k < e => h3 q.1), qb_n h3], show qbc c k e = if c = 3 then 0 else c from by
    unfold qbc
    rcases g4 with ⟨rfl, -⟩ | ⟨-, ⟨rfl, -⟩ | ⟨rfl, -⟩ | ⟨rfl, h7, -⟩⟩
    · rfl
    · rfl
    · rw [if_pos rfl, if_pos hke, if_neg (by decide)]
    · rw [if_neg (by decide), if_pos rfl, if_neg (by omega), if_neg (by decide)]]
  generalize hM : qSp (zm S) a b (e - k) (qb (qsg (zm S 5) n i = 42)) (qb (c = 3)) (if c = 3 then 0 else c) 0 (qsn (zm S 5) k c) = M
  have f4 : M 4 = zm S 4 := by rw [← hM]; exact qSp_o _ _ _ _ _ _ _ _ _ _ n4 n4b
  have f5 : M 5 = zm S 5 := by rw [← hM]; exact qSp_o _ _ _ _ _ _ _ _ _ _ n5 n5b
  by_cases hm : qmk (qsg (zm S 5) n e)
  · have hl : e < n := by
      by_cases hl : e < n
      · exact hl
      · rw [qsg_ge hl] at hm
        omega
    rw [qb_p hm] at hE
    rw [hE] at g3 hx ⊢
    rw [qsg_lt hl] at hm ⊢
    have u5 : qu M a 5 (qmc (zm S 5 e)) = qSp (zm S) a b (e - k) (qb (qsg (zm S 5) n i = 42)) (qb (c = 3)) (if c = 3 then 0 else c) (qmc (zm S 5 e)) (qsn (zm S 5) k c) := by
      rw [← hM, qSp_u5]
    rw [← u5, b97_10]
    have en := s_spEnd d S (by omega) (qu M a 5 (qmc (zm S 5 e))) (zm S 5) n a (e + 1) vu vu hK (by rw [qu_o _ _ _ _ _ n4, f4]; exact p1) (by rw [qu_o _ _ _ _ _ n4, f4]; exact p2) (by rw [qu_o _ _ _ _ _ n5]; exact f5) hn.2 (by omega) g3 hx
    simp (config := { maxSteps := 2000000 }) (disch := first | omega | (simp only [K_4 hK, K_5 hK, f4, f5, p1, ka, qb_in, qkW, qmW, qnW, true_and, and_true, or_self, true_or, or_true, and_self]; done) | (simp only [K_4 hK, K_5 hK, f4, f5, p1, ka, qb_in, qkW, qmW, qnW, true_and, and_true, or_self, true_or, or_true, and_self]; omega)) only [b97_0, b97_4, b97_18, b97_31, b97_64, b97_72, b97_81, b97_85, b97_94, b97_112, b97_121, b97_130, b97_136, b97_142, b97_144, b97_150, i97, w97_31, qcall_l, qcall_r, qretn_l, qJ_s, qJ_n, qV0, qEx, ↓qif0, ↓zchk_pos, ↓reduceIte, qput, qWW, qmW, qkW, qnW, K_4 hK, K_5 hK, f4, f5, p1, p2, if_pos hl, s_kindOf, qkd_m hm, Int.reduceEq, s_cellOfMark, q32, ka, en]
  · rw [qb_n hm, Int.add_zero] at hE
    rw [hE] at g3 hx ⊢
    rw [show qmc (qsg (zm S 5) n e) = 0 by rw [qmc_0]; exact hm, hM]
    exact s_spEnd d S (by omega) M (zm S 5) n a e y1 y4 hK (by rw [f4]; exact p1) (by rw [f4]; exact p2) f5 hn.2 (by omega) g3 hx
