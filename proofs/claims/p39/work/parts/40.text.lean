/-! The tape as a text. -/
def qnx (st run kd : Int) : Int :=
  if st = 0 ∨ st = 1 then
    (if kd = 1 then (if st = 0 then 1 else -1) else if kd = 2 then 2 else if kd = 3 then 3 else if kd = 4 then 5 else -1)
  else if kd = 2 then (if (st = 2 ∨ st = 3) ∧ run < 10 then 2 else -1)
  else if kd = 3 then (if (st = 3 ∨ st = 4) ∧ run < 10 then 4 else -1)
  else if kd = 4 then (if st = 5 ∧ run < 6 then 5 else -1)
  else if kd = 5 then (if st = 6 then -1 else 6)
  else if kd = 6 then 0 else -1
def qfa (t : Int → Int) : Nat → Int → Int → Int → Int
  | 0, i, st, _ => if st = 0 ∨ st = 1 then i else -1
  | f + 1, i, st, run => if qnx st run (qkd (t i)) = -1 then i else
      qfa t f (i + 1) (qnx st run (qkd (t i))) (if qnx st run (qkd (t i)) = 0 ∨ qnx st run (qkd (t i)) = 1 ∨ qnx st run (qkd (t i)) = 6 then 0 else run + 1)
def qtf (t : Int → Int) (n : Int) : Int := qfa t n.toNat 0 0 0
theorem s_nextState (d : Nat) (st run kd : Int) (S : zS) (h : 1 ≤ d) : zD d 95 [vi st, vi run, vi kd] S = some (.inl (some (vi (qnx st run kd))), S) := by
  obtain ⟨e, rfl, -⟩ := qd h
  simp (config := { maxSteps := 2000000 }) (disch := first | omega | (simp only [qb_in, qkW, qmW, qnW, true_and, and_true, or_self, true_or, or_true, and_self]; done) | (simp only [qb_in, qkW, qmW, qnW, true_and, and_true, or_self, true_or, or_true, and_self]; omega)) only [zD_95, b95_0, b95_4, b95_9, b95_40, b95_44, b95_48, b95_49, b95_50, b95_52, b95_54, b95_56, b95_58, b95_64, b95_68, b95_69, b95_104, b95_109, b95_114, b95_118, b95_122, b95_123, b95_124, b95_129, b95_134, b95_138, b95_142, b95_143, b95_144, b95_149, b95_155, b95_159, b95_160, b95_161, b95_167, b95_172, b95_173, b95_174, b95_176, i95, w95_10, w95_71, qcall_l, qcall_r, qretn_l, qJ_s, qJ_n, qV0, qEx, ↓qif0, ↓zchk_pos, ↓reduceIte, qput, qWW, qmW, qkW, qnW]
  unfold qnx
  repeat' split
  all_goals first | rfl | (exfalso; omega)
theorem s_faultLoop (d : Nat) (S : zS) (h : 2 ≤ d) (hK : qK S) (hP : qP (zm S)) (n : Int) (hn : zm S 4 1 = n) (hn2 : n ≤ 60) : ∀ (f : Nat) (i st run : Int), i + f = n → 0 ≤ i → 0 ≤ run → run ≤ i →
    zF_94 d 6 [vr 4, vi st, vi run, vi i] [] S = some (.inl (some (vi (qfa (zm S 5) f i st run))), S)
  | 0, i, st, run, hi, h0, h1, h2 => by
    have hlt : ¬ i < n := by omega
    rw [b94_6]
    simp (config := { maxSteps := 2000000 }) (disch := first | omega | (simp only [K_4 hK, P_3_0 hP, K_5 hK, P_4_0 hP, qb_in, qkW, qmW, qnW, true_and, and_true, or_self, true_or, or_true, and_self]; done) | (simp only [K_4 hK, P_3_0 hP, K_5 hK, P_4_0 hP, qb_in, qkW, qmW, qnW, true_and, and_true, or_self, true_or, or_true, and_self]; omega)) only [b94_0, b94_14, b94_25, b94_28, b94_34, b94_36, b94_40, b94_45, b94_51, b94_55, b94_58, b94_65, b94_69, b94_74, b94_81, b94_82, qcall_l, qcall_r, qretn_l, qJ_s, qJ_n, qV0, qEx, ↓qif0, ↓zchk_pos, ↓reduceIte, qput, qWW, qmW, qkW, qnW, K_4 hK, P_3_0 hP, K_5 hK, P_4_0 hP, hn, hlt, qfa]
    rw [show n = i by omega]
    repeat' split
    all_goals first | rfl | (exfalso; omega)
  | f + 1, i, st, run, hi, h0, h1, h2 => by
    have hlt : i < n := by omega
    rw [b94_6]
    simp (config := { maxSteps := 2000000 }) (disch := first | omega | (simp only [K_4 hK, P_3_0 hP, K_5 hK, P_4_0 hP, qb_in, qkW, qmW, qnW, true_and, and_true, or_self, true_or, or_true, and_self]; done) | (simp only [K_4 hK, P_3_0 hP, K_5 hK, P_4_0 hP, qb_in, qkW, qmW, qnW, true_and, and_true, or_self, true_or, or_true, and_self]; omega)) only [b94_0, b94_14, b94_25, b94_28, b94_34, b94_36, b94_40, b94_45, b94_51, b94_55, b94_58, b94_65, b94_69, b94_74, b94_81, b94_82, qcall_l, qcall_r, qretn_l, qJ_s, qJ_n, qV0, qEx, ↓qif0, ↓zchk_pos, ↓reduceIte, qput, qWW, qmW, qkW, qnW, K_4 hK, P_3_0 hP, K_5 hK, P_4_0 hP, hn, hlt, s_kindOf, s_nextState, q32, qfa]
    have ih := fun st run => s_faultLoop d S h hK hP n hn hn2 f (i + 1) st run (by omega) (by omega)
    generalize qnx st run (qkd (zm S 5 i)) = s1
    simp (disch := omega) only [ih]
    repeat' split
    all_goals first | rfl | (exfalso; omega)
theorem s_faultAsText (d : Nat) (S : zS) (h : 3 ≤ d) (hK : qK S) (hP : qP (zm S)) (hn : 0 ≤ zm S 4 1 ∧ zm S 4 1 ≤ 60) : zD d 94 [vr 4] S = some (.inl (some (vi (qtf (zm S 5) (zm S 4 1)))), S) := by
  obtain ⟨e, rfl, h1⟩ := qd h
  rw [zD_94, b94_0, s_faultLoop e S h1 hK hP _ rfl hn.2 (zm S 4 1).toNat 0 0 0 (by omega) (by omega) (by omega) (by omega)]
  rfl
theorem qnx0 (run c : Int) : qnx 0 run (qkd c) = if c = 42 then 1 else if qsm c then 2 else if qbg c then 3 else if qdg c then 5 else -1 := by
  unfold qnx qkd
  repeat' split
  all_goals first | rfl | (exfalso; omega)
theorem qnx1 (run c : Int) : qnx 1 run (qkd c) = if qsm c then 2 else if qbg c then 3 else if qdg c then 5 else -1 := by
  unfold qnx qkd
  repeat' split
  all_goals first | rfl | (exfalso; omega)
theorem qnx2 (run c : Int) : qnx 2 run (qkd c) = if qsm c ∧ run < 10 then 2 else if qmk c then 6 else if qpt c then 0 else -1 := by
  unfold qnx qkd
  repeat' split
  all_goals first | rfl | (exfalso; omega)
theorem qnx3 (run c : Int) : qnx 3 run (qkd c) = if qsm c ∧ run < 10 then 2 else if qbg c ∧ run < 10 then 4 else if qmk c then 6 else if qpt c then 0 else -1 := by
  unfold qnx qkd
  repeat' split
  all_goals first | rfl | (exfalso; omega)
theorem qnx4 (run c : Int) : qnx 4 run (qkd c) = if qbg c ∧ run < 10 then 4 else if qmk c then 6 else if qpt c then 0 else -1 := by
  unfold qnx qkd
  repeat' split
  all_goals first | rfl | (exfalso; omega)
theorem qnx5 (run c : Int) : qnx 5 run (qkd c) = if qdg c ∧ run < 6 then 5 else if qmk c then 6 else if qpt c then 0 else -1 := by
  unfold qnx qkd
  repeat' split
  all_goals first | rfl | (exfalso; omega)
theorem qnx6 (run c : Int) : qnx 6 run (qkd c) = if qpt c then 0 else -1 := by
  unfold qnx qkd
  repeat' split
  all_goals first | rfl | (exfalso; omega)
