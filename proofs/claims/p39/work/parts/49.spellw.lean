/-! Both take the same word from the tape. -/
theorem r_takesWord (d : Nat) (S : zS) (h : 5 ≤ d) (hK : qK S) (hP : qP (zm S)) (hT : qTr (zm S)) (hd : 0 ≤ zm S 37 12 ∧ zm S 37 12 ≤ 12) (i k e c : Int) (h0 : 0 ≤ i) (h9 : i ≤ 60) (hw : qWd (qms (zm S)) i k e c) :
    zD d 206 [vr 37, vi i] S = some (.inl (some (vi (qeo (qms (zm S)) i))), qW S (qTk (zm S) (qb (qms (zm S) i = 42)) (qmv (qms (zm S) e)) (qb (c = 3)) (e - k) (if c = 3 then 0 else c) (fun x => qsl (qms (zm S) (k + x))) (qpts (zm S) (qb (c = 3)) (e - k) (qov (zm S) 64 (fun x => qsl (qms (zm S) (k + x))) (e - k) 64)))) := by
  obtain ⟨e', rfl, h1⟩ := qd h
  have hT2 := hT
  obtain ⟨hn0, hn, hr⟩ := hT2
  have hk := hw.1
  have hke := hw.2.1
  have hc := hw.2.2.2
  have hb := qb_r (qms (zm S) i = 42)
  have hl10 : e - k ≤ 10 := by omega
  have hmv : 0 ≤ qmv (qms (zm S) e) ∧ qmv (qms (zm S) e) < 65536 := by
    unfold qmv
    split <;> omega
  have hv : qTv (qW S (zm S)) (zm S 38) (zm S 37 2) := ⟨hK, P_37_1 hP, rfl, rfl⟩
  rw [zD_206, r_tkA e' S h1 hK hP hT i k e c h0 h9 hw]
  rw [r_tkB e' S h1 _ (zm S 38) (zm S 37 2) hn hr (by rw [qTv_37 _ _ _ _ _ _ (by decide) (by decide)]; exact hv) i k e c _ _ h0 h9 hw hmv]
  generalize hm1 : qu (qu (qu (qu (qu (zm S) 37 32 (qb (qms (zm S) i = 42))) 37 37 (qmv (qms (zm S) e))) 37 33 (qb (c = 3))) 37 36 (e - k)) 37 34 (if c = 3 then 0 else c) = m1
  have hv1 : qTv (qW S m1) (zm S 38) (zm S 37 2) := by
    rw [← hm1]
    simp only [qTv_37, ne_eq, Int.reduceEq, not_false_eq_true]
    exact hv
  have q1 : m1 37 35 = 64 := by
    rw [← hm1]
    simp only [qu1, Int.reduceEq, ↓reduceIte]
    exact P_37_35 hP
  have q2 : m1 37 36 = e - k := by
    rw [← hm1]
    simp only [qu1, Int.reduceEq, ↓reduceIte]
  have hC := r_tkC e' S h1 m1 (zm S 38) (zm S 37 2) hn hr hv1 k e (qeo (qms (zm S)) i) (e - k) (by omega) (by omega) rfl hl10 q1 q2 (e - k).toNat 0 (by omega) (by omega)
  rw [qov_0] at hC
  rw [hC]
  have hP2 : qP (qov m1 64 (fun x => qsl (qms (zm S) (k + x))) (e - k)) := hP.same fun q hq => by
    have hb : ∀ q ∈ qPt, q.1 ≠ 64 ∧ (q.1 = 37 → q.2.1 ≠ 32 ∧ q.2.1 ≠ 33 ∧ q.2.1 ≠ 34 ∧ q.2.1 ≠ 36 ∧ q.2.1 ≠ 37) := by decide
    obtain ⟨b1, b2⟩ := hb q hq
    rw [qov_o _ _ _ _ _ b1, ← hm1]
    by_cases h37 : q.1 = 37
    · obtain ⟨c1, c2, c3, c4, c5⟩ := b2 h37
      rw [h37, qu_i _ _ _ _ _ c3, qu_i _ _ _ _ _ c4, qu_i _ _ _ _ _ c2, qu_i _ _ _ _ _ c5, qu_i _ _ _ _ _ c1]
    · rw [qu_o _ _ _ _ _ h37, qu_o _ _ _ _ _ h37, qu_o _ _ _ _ _ h37, qu_o _ _ _ _ _ h37, qu_o _ _ _ _ _ h37]
  have o37 : qov m1 64 (fun x => qsl (qms (zm S) (k + x))) (e - k) 37 = m1 37 := qov_o _ _ _ _ _ (by decide)
  have w12 : m1 37 12 = zm S 37 12 := by rw [← hm1]; simp only [qu1, Int.reduceEq, ↓reduceIte]
  have w33 : m1 37 33 = qb (c = 3) := by rw [← hm1]; simp only [qu1, Int.reduceEq, ↓reduceIte]
  have wo : ∀ a, a ≠ 37 → m1 a = zm S a := fun a ha => by rw [← hm1, qu_o _ _ _ _ _ ha, qu_o _ _ _ _ _ ha, qu_o _ _ _ _ _ ha, qu_o _ _ _ _ _ ha, qu_o _ _ _ _ _ ha]
  have w64 : qov m1 64 (fun x => qsl (qms (zm S) (k + x))) (e - k) 64 = qov (zm S) 64 (fun x => qsl (qms (zm S) (k + x))) (e - k) 64 := by
    funext j
    unfold qov
    rw [wo 64 (by decide)]
  have fp := r_findsParts e' (qW S (qov m1 64 (fun x => qsl (qms (zm S) (k + x))) (e - k))) (by omega) hK hP2 (by rw [qmW, o37, q2]; omega) (by rw [qmW, o37, w12]; exact hd)
  rw [qmW, o37, q2, w33, w64] at fp
  have ep : qpts (qov m1 64 (fun x => qsl (qms (zm S) (k + x))) (e - k)) (qb (c = 3)) (e - k) (qov (zm S) 64 (fun x => qsl (qms (zm S) (k + x))) (e - k) 64) = qpts (zm S) (qb (c = 3)) (e - k) (qov (zm S) 64 (fun x => qsl (qms (zm S) (k + x))) (e - k) 64) := by
    unfold qpts
    rw [o37, w12, qov_o _ _ _ _ 47 (by decide), qov_o _ _ _ _ 46 (by decide), qov_o _ _ _ _ 48 (by decide), wo 47 (by decide), wo 46 (by decide), wo 48 (by decide)]
  rw [ep] at fp
  simp (config := { maxSteps := 2000000 }) (disch := first | omega | (simp only [K_37 hK, qb_in, qkW, qmW, qnW, true_and, and_true, or_self, true_or, or_true, and_self]; done) | (simp only [K_37 hK, qb_in, qkW, qmW, qnW, true_and, and_true, or_self, true_or, or_true, and_self]; omega)) only [b206_0, b206_5, m206_12, b206_17, b206_21, m206_22, b206_33, b206_37, b206_38, b206_47, m206_50, b206_53, b206_59, b206_60, b206_69, b206_75, b206_78, b206_79, b206_88, b206_91, b206_108, b206_111, b206_114, b206_118, b206_126, b206_133, m206_136, b206_139, b206_143, b206_144, b206_159, b206_173, b206_176, b206_183, b206_187, qcall_l, qcall_r, qretn_l, qJ_s, qJ_n, qV0, qEx, ↓qif0, ↓zchk_pos, ↓reduceIte, qput, qWW, qmW, qkW, qnW, K_37 hK, fp]
  unfold qTk
  rw [← hm1]
def qbc (c k j : Int) : Int := if c = 1 then (if k < j then 1 else 0) else if c = 2 then (if j - k < 2 then j - k else 2) else 0
def qsn (t : Int → Int) (k c : Int) (x : Int) : Int := qsl (t (k + x)) - (if c = 3 then 48 else 97)
theorem s_spLoop (d : Nat) (S : zS) (h : 3 ≤ d) (m : Int → Int → Int) (t : Int → Int) (n a b st k e c : Int) (hK : qK S) (p1 : m 4 0 = 5) (p2 : m 4 1 = n) (p3 : m 5 = t) (hn : n ≤ 60) (ka : zk S a = (28, 0)) (kb : zk S b = (0, 10)) (pa : m a 0 = b) (h0 : 0 ≤ k) (he : e ≤ n)
    (hc : (c = 3 ∧ e - k ≤ 6 ∧ ∀ j, k ≤ j → j < e → qdg (t j)) ∨ (e - k ≤ 10 ∧ ((c = 0 ∧ ∀ j, k ≤ j → j < e → qsm (t j)) ∨ (c = 1 ∧ qbg (t k) ∧ ∀ j, k < j → j < e → qsm (t j)) ∨ (c = 2 ∧ k + 1 < e ∧ ∀ j, k ≤ j → j < e → qbg (t j))))) : ∀ (f : Nat) (j : Int) (x1 x4 : zV), k ≤ j → j + f = e →
    ∃ y1 y4 : zV, zF_97 d 10 [vr 4, x1, vr a, vi j, x4] [] (qW S (qSp m a b (j - k) st (qb (c = 3 ∧ k < j)) (qbc c k j) 0 (qsn t k c))) = zF_97 d 10 [vr 4, y1, vr a, vi e, y4] [] (qW S (qSp m a b (e - k) st (qb (c = 3 ∧ k < e)) (qbc c k e) 0 (qsn t k c))) := by
  have n4 : (4 : Int) ≠ a := fun q => by rw [← q, K_4 hK] at ka; exact absurd ka (by decide)
  have n4b : (4 : Int) ≠ b := fun q => by rw [← q, K_4 hK] at kb; exact absurd kb (by decide)
  have n5 : (5 : Int) ≠ a := fun q => by rw [← q, K_5 hK] at ka; exact absurd ka (by decide)
  have n5b : (5 : Int) ≠ b := fun q => by rw [← q, K_5 hK] at kb; exact absurd kb (by decide)
  have nab : b ≠ a := fun q => by rw [q, ka] at kb; exact absurd kb (by decide)
  intro f
  induction f with
  | zero =>
    intro j x1 x4 h1 h2
    exact ⟨x1, x4, by rw [show j = e by omega]⟩
  | succ f ih =>
    intro j x1 x4 h1 h2
    obtain ⟨y1, y4, ih⟩ := ih (j + 1) vu vu (by omega) (by omega)
    refine ⟨y1, y4, ?_⟩
    rw [b97_10]
    generalize hM : qSp m a b (j - k) st (qb (c = 3 ∧ k < j)) (qbc c k j) 0 (qsn t k c) = M
    have f4 : M 4 = m 4 := by rw [← hM]; exact qSp_o _ _ _ _ _ _ _ _ _ _ n4 n4b
    have f5 : M 5 = t := by rw [← hM, qSp_o _ _ _ _ _ _ _ _ _ _ n5 n5b]; exact p3
    have fa0 : M a 0 = b := by rw [← hM, qSp_0]; exact pa
    have fa1 : M a 1 = j - k := by rw [← hM, qSp_1]
    have fa4 : M a 4 = qbc c k j := by rw [← hM, qSp_4]
    have ap := fun v => s_spAppend d (qW S M) a b v (by omega) ka fa0 kb (by show 0 ≤ M a 1; omega)
    simp only [qmW, fa1, if_pos (show j - k < 10 by omega)] at ap
    have cq : qsn t k c (j - k) = qsl (t j) - (if c = 3 then 48 else 97) := by
      unfold qsn
      rw [show k + (j - k) = j by omega]
    have up : ∀ v, v = qsl (t j) - (if c = 3 then 48 else 97) → qu (qu M b (j - k) v) a 1 (j - k + 1) = qSp m a b (j + 1 - k) st (qb (c = 3 ∧ k < j)) (qbc c k j) 0 (qsn t k c) := fun v hv => by
      rw [← hM, show j + 1 - k = j - k + 1 by omega]
      exact qSp_u1 _ _ _ _ _ _ _ _ _ _ nab (by omega) (by rw [hv, cq])
    rw [← ih]
    rcases hc with ⟨rfl, h6, hc⟩ | ⟨h6, ⟨rfl, hc⟩ | ⟨rfl, hc1, hc2⟩ | ⟨rfl, h7, hc⟩⟩
    · have f1 := hc j (by omega) (by omega)
      have u1 := up (t j - 48) (by unfold qsl; rw [if_neg (by omega), if_pos rfl])
      rw [qb_p (show (3 : Int) = 3 ∧ k < j + 1 from ⟨rfl, by omega⟩), show qbc 3 k (j + 1) = qbc 3 k j from rfl, ← qSp_u3 m a b (j + 1 - k) st (qb ((3 : Int) = 3 ∧ k < j)) (qbc 3 k j) 0 1 (qsn t k 3), ← u1]
      simp (config := { maxSteps := 2000000 }) (disch := first | omega | (simp only [K_4 hK, K_5 hK, f4, f5, p1, ka, qb_in, qkW, qmW, qnW, true_and, and_true, or_self, true_or, or_true, and_self]; done) | (simp only [K_4 hK, K_5 hK, f4, f5, p1, ka, qb_in, qkW, qmW, qnW, true_and, and_true, or_self, true_or, or_true, and_self]; omega)) only [b97_0, b97_4, b97_18, b97_31, b97_64, b97_72, b97_81, b97_85, b97_94, b97_112, b97_121, b97_130, b97_136, b97_142, b97_144, b97_150, i97, w97_31, qcall_l, qcall_r, qretn_l, qJ_s, qJ_n, qV0, qEx, ↓qif0, ↓zchk_pos, ↓reduceIte, qput, qWW, qmW, qkW, qnW, K_4 hK, K_5 hK, f4, f5, p1, p2, if_pos (show j < n by omega), s_kindOf, qkd_d f1, Int.reduceEq, ap, q32, ka]
    · have f1 := hc j (by omega) (by omega)
      have u1 := up (t j - 97) (by unfold qsl; rw [if_neg (by omega), if_neg (by decide)])
      rw [show qb ((0 : Int) = 3 ∧ k < j + 1) = qb ((0 : Int) = 3 ∧ k < j) from (qb_n fun q => absurd q.1 (by decide)).trans (qb_n fun q => absurd q.1 (by decide)).symm, show qbc 0 k (j + 1) = qbc 0 k j from rfl, ← u1]
      simp (config := { maxSteps := 2000000 }) (disch := first | omega | (simp only [K_4 hK, K_5 hK, f4, f5, p1, ka, qb_in, qkW, qmW, qnW, true_and, and_true, or_self, true_or, or_true, and_self]; done) | (simp only [K_4 hK, K_5 hK, f4, f5, p1, ka, qb_in, qkW, qmW, qnW, true_and, and_true, or_self, true_or, or_true, and_self]; omega)) only [b97_0, b97_4, b97_18, b97_31, b97_64, b97_72, b97_81, b97_85, b97_94, b97_112, b97_121, b97_130, b97_136, b97_142, b97_144, b97_150, i97, w97_31, qcall_l, qcall_r, qretn_l, qJ_s, qJ_n, qV0, qEx, ↓qif0, ↓zchk_pos, ↓reduceIte, qput, qWW, qmW, qkW, qnW, K_4 hK, K_5 hK, f4, f5, p1, p2, if_pos (show j < n by omega), s_kindOf, qkd_s f1, Int.reduceEq, ap, q32, ka]
    · by_cases hj : j = k
      · have f1 : qbg (t j) := by rw [hj]; exact hc1
        have u1 := up (t j - 65) (by unfold qsl; rw [if_pos f1, if_neg (by decide)]; omega)
        have z0 : qbc 1 k j = 0 := by unfold qbc; rw [if_pos rfl, if_neg (by omega)]
        have z1 : qbc 1 k (j + 1) = 1 := by unfold qbc; rw [if_pos rfl, if_pos (by omega)]
        have r4 : qu (qu M b (j - k) (t j - 65)) a 1 (j - k + 1) a 4 = 0 := by rw [u1, qSp_4, z0]
        rw [show qb ((1 : Int) = 3 ∧ k < j + 1) = qb ((1 : Int) = 3 ∧ k < j) from (qb_n fun q => absurd q.1 (by decide)).trans (qb_n fun q => absurd q.1 (by decide)).symm, z1, ← qSp_u4 m a b (j + 1 - k) st _ (qbc 1 k j) 0 1 (qsn t k 1), ← u1]
        simp (config := { maxSteps := 2000000 }) (disch := first | omega | (simp only [K_4 hK, K_5 hK, f4, f5, p1, ka, qb_in, qkW, qmW, qnW, true_and, and_true, or_self, true_or, or_true, and_self]; done) | (simp only [K_4 hK, K_5 hK, f4, f5, p1, ka, qb_in, qkW, qmW, qnW, true_and, and_true, or_self, true_or, or_true, and_self]; omega)) only [b97_0, b97_4, b97_18, b97_31, b97_64, b97_72, b97_81, b97_85, b97_94, b97_112, b97_121, b97_130, b97_136, b97_142, b97_144, b97_150, i97, w97_31, qcall_l, qcall_r, qretn_l, qJ_s, qJ_n, qV0, qEx, ↓qif0, ↓zchk_pos, ↓reduceIte, qput, qWW, qmW, qkW, qnW, K_4 hK, K_5 hK, f4, f5, p1, p2, if_pos (show j < n by omega), s_kindOf, qkd_b f1, Int.reduceEq, Int.reduceAdd, Int.reduceLT, ap, q32, ka, r4]
      · have f1 := hc2 j (by omega) (by omega)
        have u1 := up (t j - 97) (by unfold qsl; rw [if_neg (by omega), if_neg (by decide)])
        have z1 : qbc 1 k (j + 1) = qbc 1 k j := by unfold qbc; rw [if_pos rfl, if_pos rfl, if_pos (by omega), if_pos (by omega)]
        rw [show qb ((1 : Int) = 3 ∧ k < j + 1) = qb ((1 : Int) = 3 ∧ k < j) from (qb_n fun q => absurd q.1 (by decide)).trans (qb_n fun q => absurd q.1 (by decide)).symm, z1, ← u1]
        simp (config := { maxSteps := 2000000 }) (disch := first | omega | (simp only [K_4 hK, K_5 hK, f4, f5, p1, ka, qb_in, qkW, qmW, qnW, true_and, and_true, or_self, true_or, or_true, and_self]; done) | (simp only [K_4 hK, K_5 hK, f4, f5, p1, ka, qb_in, qkW, qmW, qnW, true_and, and_true, or_self, true_or, or_true, and_self]; omega)) only [b97_0, b97_4, b97_18, b97_31, b97_64, b97_72, b97_81, b97_85, b97_94, b97_112, b97_121, b97_130, b97_136, b97_142, b97_144, b97_150, i97, w97_31, qcall_l, qcall_r, qretn_l, qJ_s, qJ_n, qV0, qEx, ↓qif0, ↓zchk_pos, ↓reduceIte, qput, qWW, qmW, qkW, qnW, K_4 hK, K_5 hK, f4, f5, p1, p2, if_pos (show j < n by omega), s_kindOf, qkd_s f1, Int.reduceEq, ap, q32, ka]
    · have f1 := hc j (by omega) (by omega)
      have u1 := up (t j - 65) (by unfold qsl; rw [if_pos f1, if_neg (by decide)]; omega)
      have zb : 0 ≤ qbc 2 k j ∧ qbc 2 k j ≤ 2 := by unfold qbc; rw [if_neg (by decide), if_pos rfl]; split <;> omega
      have z1 : qbc 2 k (j + 1) = if qbc 2 k j + 1 < 2 then qbc 2 k j + 1 else 2 := by
        unfold qbc
        simp only [Int.reduceEq, ↓reduceIte]
        repeat' split
        all_goals omega
      have r4 : qu (qu M b (j - k) (t j - 65)) a 1 (j - k + 1) a 4 = qbc 2 k j := by rw [u1, qSp_4]
      rw [show qb ((2 : Int) = 3 ∧ k < j + 1) = qb ((2 : Int) = 3 ∧ k < j) from (qb_n fun q => absurd q.1 (by decide)).trans (qb_n fun q => absurd q.1 (by decide)).symm, z1, ← qSp_u4 m a b (j + 1 - k) st _ (qbc 2 k j) 0 _ (qsn t k 2), ← u1]
      simp (config := { maxSteps := 2000000 }) (disch := first | omega | (simp only [K_4 hK, K_5 hK, f4, f5, p1, ka, qb_in, qkW, qmW, qnW, true_and, and_true, or_self, true_or, or_true, and_self]; done) | (simp only [K_4 hK, K_5 hK, f4, f5, p1, ka, qb_in, qkW, qmW, qnW, true_and, and_true, or_self, true_or, or_true, and_self]; omega)) only [b97_0, b97_4, b97_18, b97_31, b97_64, b97_72, b97_81, b97_85, b97_94, b97_112, b97_121, b97_130, b97_136, b97_142, b97_144, b97_150, i97, w97_31, qcall_l, qcall_r, qretn_l, qJ_s, qJ_n, qV0, qEx, ↓qif0, ↓zchk_pos, ↓reduceIte, qput, qWW, qmW, qkW, qnW, K_4 hK, K_5 hK, f4, f5, p1, p2, if_pos (show j < n by omega), s_kindOf, qkd_b f1, Int.reduceEq, ap, q32, ka, r4]
