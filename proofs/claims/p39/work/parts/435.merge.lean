/-! Where two branches meet again. -/
theorem m1_8 (d : Nat) (a0 a1 : Int) (x2 : zV) (S : zS) : zF_1 d 8 [vr a0, vi a1, x2] [] S = zchk ((zk S a0).1 = 20) (zF_1 d 25 [vu, vu, vu] [vi (qb (zand (zshr (zm S a0 15) a1) 1 = 1))] S) := by
  rw [b1_8]
  by_cases h : zand (zshr (zm S a0 15) a1) 1 = 1
  · simp only [if_pos h, b1_20, qb, h, ↓reduceIte, true_and, not_true_eq_false, false_or, true_or, false_and, or_true]
  · simp only [if_neg h, b1_24, qb, h, ↓reduceIte, false_and, not_false_eq_true, true_or, true_and, false_or, or_true]
theorem m8_10 (d : Nat) (a0 : Int) (S : zS) : zF_8 d 10 [vi a0] [] S = zF_8 d 21 [vu] [vi (if a0 < 100 then 3 else 4)] S := by
  rw [b8_10]
  by_cases h : a0 < 100
  · simp only [if_pos h, b8_16, qb, ↓reduceIte, true_and, not_true_eq_false, false_or, true_or, false_and, or_true]
  · simp only [if_neg h, b8_20, qb, ↓reduceIte, false_and, not_false_eq_true, true_or, true_and, false_or, or_true]
theorem m8_0 (d : Nat) (a0 : Int) (S : zS) : zF_8 d 0 [vi a0] [] S = zF_8 d 21 [vu] [vi (if a0 < 10 then 2 else (if a0 < 100 then 3 else 4))] S := by
  rw [b8_0]
  by_cases h : a0 < 10
  · simp only [if_pos h, b8_6, qb, ↓reduceIte, true_and, not_true_eq_false, false_or, true_or, false_and, or_true]
  · simp only [if_neg h, m8_10, qb, ↓reduceIte, false_and, not_false_eq_true, true_or, true_and, false_or, or_true]
theorem m9_82 (d : Nat) (a0 a1 a3 : Int) (x2 x4 : zV) (S : zS) : zF_9 d 82 [vr a0, vr a1, x2, vi a3, x4] [] S = zF_9 d 94 [vr a0, vr a1, vu, vu, vu] [vi (if a3 = 47 then 2 else 0), vr a0] S := by
  rw [b9_82]
  by_cases h : a3 = 47
  · simp only [if_pos h, b9_89, qb, ↓reduceIte, true_and, not_true_eq_false, false_or, true_or, false_and, or_true]
  · simp only [if_neg h, b9_93, qb, ↓reduceIte, false_and, not_false_eq_true, true_or, true_and, false_or, or_true]
theorem m21_44 (d : Nat) (s0 : Int) (x0 x1 x2 x3 x4 : zV) (S : zS) : zF_21 d 44 [x0, x1, x2, x3, x4] [vi s0] S = zF_21 d 52 [vu, vu, vu, vu, vu] [vi (qb (¬(s0 = 0)))] S := by
  rw [b21_44]
  by_cases h : s0 = 0
  · simp only [if_pos h, b21_51, qb, h, ↓reduceIte, true_and, not_true_eq_false, false_or, true_or, false_and, or_true]
  · simp only [if_neg h, b21_47, qb, h, ↓reduceIte, false_and, not_false_eq_true, true_or, true_and, false_or, or_true]
theorem m26_107 (d : Nat) (a2 a3 : Int) (x0 x1 x4 x5 x6 x7 x8 : zV) (S : zS) : zF_26 d 107 [x0, x1, vi a2, vi a3, x4, x5, x6, x7, x8] [] S = zF_26 d 117 [vu, vu, vu, vu, vu, vu, vu, vu, vu] [vi (qb (a2 < a3))] S := by
  rw [b26_107]
  by_cases h : a2 < a3
  · simp only [if_pos h, b26_112, qb, h, ↓reduceIte, true_and, not_true_eq_false, false_or, true_or, false_and, or_true]
  · simp only [if_neg h, b26_116, qb, h, ↓reduceIte, false_and, not_false_eq_true, true_or, true_and, false_or, or_true]
theorem m28_48 (d : Nat) (a1 a2 : Int) (x0 x3 x4 x5 : zV) (S : zS) : zF_28 d 48 [x0, vi a1, vi a2, x3, x4, x5] [] S = zF_28 d 58 [vu, vu, vu, vu, vu, vu] [vi (qb (a1 < a2))] S := by
  rw [b28_48]
  by_cases h : a1 < a2
  · simp only [if_pos h, b28_53, qb, h, ↓reduceIte, true_and, not_true_eq_false, false_or, true_or, false_and, or_true]
  · simp only [if_neg h, b28_57, qb, h, ↓reduceIte, false_and, not_false_eq_true, true_or, true_and, false_or, or_true]
theorem m34_0 (d : Nat) (a0 : Int) (S : zS) : zF_34 d 0 [vr a0] [] S = zchk ((zk S a0).1 = 23) (zF_34 d 12 [vu] [vi (if zm S a0 5 = 0 then 1 else 2)] S) := by
  rw [b34_0]
  by_cases h : zm S a0 5 = 0
  · simp only [if_pos h, b34_7, qb, ↓reduceIte, true_and, not_true_eq_false, false_or, true_or, false_and, or_true]
  · simp only [if_neg h, b34_11, qb, ↓reduceIte, false_and, not_false_eq_true, true_or, true_and, false_or, or_true]
theorem m36_113 (d : Nat) (a5 : Int) (x0 x1 x2 x3 x4 : zV) (S : zS) : zF_36 d 113 [x0, x1, x2, x3, x4, vi a5] [] S = zF_36 d 123 [vu, vu, vu, vu, vu, vu] [vi (qb (¬(a5 = 0)))] S := by
  rw [b36_113]
  by_cases h : a5 = 0
  · simp only [if_pos h, b36_122, qb, h, ↓reduceIte, true_and, not_true_eq_false, false_or, true_or, false_and, or_true]
  · simp only [if_neg h, b36_118, qb, h, ↓reduceIte, false_and, not_false_eq_true, true_or, true_and, false_or, or_true]
theorem m36_108 (d : Nat) (a4 a5 : Int) (x0 x1 x2 x3 : zV) (S : zS) : zF_36 d 108 [x0, x1, x2, x3, vi a4, vi a5] [] S = zF_36 d 123 [vu, vu, vu, vu, vu, vu] [vi (qb ((a4 = 0) ∧ (¬(a5 = 0))))] S := by
  rw [b36_108]
  by_cases h : a4 = 0
  · simp only [if_pos h, m36_113, qb, h, ↓reduceIte, true_and, not_true_eq_false, false_or, true_or, false_and, or_true]
  · simp only [if_neg h, b36_122, qb, h, ↓reduceIte, false_and, not_false_eq_true, true_or, true_and, false_or, or_true]
theorem m36_97 (d : Nat) (a5 : Int) (x0 x1 x2 x3 x4 : zV) (S : zS) : zF_36 d 97 [x0, x1, x2, x3, x4, vi a5] [] S = zF_36 d 107 [vu, vu, vu, vu, vu, vu] [vi (qb (a5 = 0))] S := by
  rw [b36_97]
  by_cases h : a5 = 0
  · simp only [if_pos h, b36_102, qb, h, ↓reduceIte, true_and, not_true_eq_false, false_or, true_or, false_and, or_true]
  · simp only [if_neg h, b36_106, qb, h, ↓reduceIte, false_and, not_false_eq_true, true_or, true_and, false_or, or_true]
theorem m36_92 (d : Nat) (a4 a5 : Int) (x0 x1 x2 x3 : zV) (S : zS) : zF_36 d 92 [x0, x1, x2, x3, vi a4, vi a5] [] S = zF_36 d 107 [vu, vu, vu, vu, vu, vu] [vi (qb ((a4 = 0) ∧ (a5 = 0)))] S := by
  rw [b36_92]
  by_cases h : a4 = 0
  · simp only [if_pos h, m36_97, qb, h, ↓reduceIte, true_and, not_true_eq_false, false_or, true_or, false_and, or_true]
  · simp only [if_neg h, b36_106, qb, h, ↓reduceIte, false_and, not_false_eq_true, true_or, true_and, false_or, or_true]
theorem m36_81 (d : Nat) (a5 : Int) (x0 x1 x2 x3 x4 : zV) (S : zS) : zF_36 d 81 [x0, x1, x2, x3, x4, vi a5] [] S = zF_36 d 91 [vu, vu, vu, vu, vu, vu] [vi (qb (a5 = 0))] S := by
  rw [b36_81]
  by_cases h : a5 = 0
  · simp only [if_pos h, b36_86, qb, h, ↓reduceIte, true_and, not_true_eq_false, false_or, true_or, false_and, or_true]
  · simp only [if_neg h, b36_90, qb, h, ↓reduceIte, false_and, not_false_eq_true, true_or, true_and, false_or, or_true]
theorem m36_76 (d : Nat) (a4 a5 : Int) (x0 x1 x2 x3 : zV) (S : zS) : zF_36 d 76 [x0, x1, x2, x3, vi a4, vi a5] [] S = zF_36 d 91 [vu, vu, vu, vu, vu, vu] [vi (qb (¬(a4 = 0) ∧ (a5 = 0)))] S := by
  rw [b36_76]
  by_cases h : a4 = 0
  · simp only [if_pos h, b36_90, qb, h, ↓reduceIte, true_and, not_true_eq_false, false_or, true_or, false_and, or_true]
  · simp only [if_neg h, m36_81, qb, h, ↓reduceIte, false_and, not_false_eq_true, true_or, true_and, false_or, or_true]
theorem m36_65 (d : Nat) (a5 : Int) (x0 x1 x2 x3 x4 : zV) (S : zS) : zF_36 d 65 [x0, x1, x2, x3, x4, vi a5] [] S = zF_36 d 75 [vu, vu, vu, vu, vu, vu] [vi (qb (¬(a5 = 0)))] S := by
  rw [b36_65]
  by_cases h : a5 = 0
  · simp only [if_pos h, b36_74, qb, h, ↓reduceIte, true_and, not_true_eq_false, false_or, true_or, false_and, or_true]
  · simp only [if_neg h, b36_70, qb, h, ↓reduceIte, false_and, not_false_eq_true, true_or, true_and, false_or, or_true]
theorem m36_60 (d : Nat) (a4 a5 : Int) (x0 x1 x2 x3 : zV) (S : zS) : zF_36 d 60 [x0, x1, x2, x3, vi a4, vi a5] [] S = zF_36 d 75 [vu, vu, vu, vu, vu, vu] [vi (qb (¬(a4 = 0) ∧ (¬(a5 = 0))))] S := by
  rw [b36_60]
  by_cases h : a4 = 0
  · simp only [if_pos h, b36_74, qb, h, ↓reduceIte, true_and, not_true_eq_false, false_or, true_or, false_and, or_true]
  · simp only [if_neg h, m36_65, qb, h, ↓reduceIte, false_and, not_false_eq_true, true_or, true_and, false_or, or_true]
theorem m36_9 (d : Nat) (a0 a1 a2 a3 s0 : Int) (x4 x5 : zV) (S : zS) : zF_36 d 9 [vr a0, vi a1, vi a2, vi a3, x4, x5] [vi s0] S = zF_36 d 23 [vr a0, vu, vu, vu, vi s0, vu] [vi (qb (z32 (a1 + a2) = a3))] S := by
  rw [b36_9]
  by_cases h : z32 (a1 + a2) = a3
  · simp only [if_pos h, b36_18, qb, h, ↓reduceIte, true_and, not_true_eq_false, false_or, true_or, false_and, or_true]
  · simp only [if_neg h, b36_22, qb, h, ↓reduceIte, false_and, not_false_eq_true, true_or, true_and, false_or, or_true]
theorem m36_0 (d : Nat) (a0 a1 a2 a3 : Int) (S : zS) : zF_36 d 0 [vr a0, vi a1, vi a2, vi a3, vu, vu] [] S = zF_36 d 9 [vr a0, vi a1, vi a2, vi a3, vu, vu] [vi (qb (a1 = 0))] S := by
  rw [b36_0]
  by_cases h : a1 = 0
  · simp only [if_pos h, b36_4, qb, h, ↓reduceIte, true_and, not_true_eq_false, false_or, true_or, false_and, or_true]
  · simp only [if_neg h, b36_8, qb, h, ↓reduceIte, false_and, not_false_eq_true, true_or, true_and, false_or, or_true]
theorem m40_33 (d : Nat) (a0 a1 a2 a3 a4 a5 : Int) (x6 : zV) (S : zS) : zF_40 d 33 [vr a0, vr a1, vi a2, vi a3, vi a4, vi a5, x6] [] S = zF_40 d 48 [vr a0, vr a1, vi a2, vi a3, vi a4, vi a5, vu] [vi (qb (zand (zshr a3 a5) 1 = 1))] S := by
  rw [b40_33]
  by_cases h : zand (zshr a3 a5) 1 = 1
  · simp only [if_pos h, b40_43, qb, h, ↓reduceIte, true_and, not_true_eq_false, false_or, true_or, false_and, or_true]
  · simp only [if_neg h, b40_47, qb, h, ↓reduceIte, false_and, not_false_eq_true, true_or, true_and, false_or, or_true]
theorem m42_15 (d : Nat) (a0 a1 a2 s0 : Int) (x3 x4 x5 : zV) (S : zS) : zF_42 d 15 [vr a0, vr a1, vr a2, x3, x4, x5] [vi s0] S = zchk ((zk S a1).1 = 21) (zchk ((zk S a0).1 = 24) (zchk ((zk S (zm S a0 1)).1 = 20) (zF_42 d 37 [vr a0, vr a1, vr a2, vi s0, vu, vu] [vi (qb (¬(z32 ((zm S a1 3) + 1) < zm S (zm S a0 1) 4)))] S))) := by
  rw [b42_15]
  by_cases h : z32 ((zm S a1 3) + 1) < zm S (zm S a0 1) 4
  · simp only [if_pos h, b42_36, qb, h, ↓reduceIte, true_and, not_true_eq_false, false_or, true_or, false_and, or_true]
  · simp only [if_neg h, b42_32, qb, h, ↓reduceIte, false_and, not_false_eq_true, true_or, true_and, false_or, or_true]
theorem m55_53 (d : Nat) (a0 a1 a2 a4 a5 a6 a7 : Int) (x3 : zV) (S : zS) : zF_55 d 53 [vr a0, vr a1, vi a2, x3, vi a4, vi a5, vi a6, vi a7] [] S = zF_55 d 64 [vr a0, vr a1, vi a2, vu, vi a4, vi a5, vi a6, vi a7] [vi (qb (¬(a6 = (-1))))] S := by
  rw [b55_53]
  by_cases h : a6 = (-1)
  · simp only [if_pos h, b55_63, qb, h, ↓reduceIte, true_and, not_true_eq_false, false_or, true_or, false_and, or_true]
  · simp only [if_neg h, b55_59, qb, h, ↓reduceIte, false_and, not_false_eq_true, true_or, true_and, false_or, or_true]
theorem m55_49 (d : Nat) (a0 a1 a2 a3 a4 a5 a6 a7 : Int) (S : zS) : zF_55 d 49 [vr a0, vr a1, vi a2, vi a3, vi a4, vi a5, vi a6, vi a7] [] S = zF_55 d 64 [vr a0, vr a1, vi a2, vu, vi a4, vi a5, vi a6, vi a7] [vi (qb (¬(a3 = 0) ∧ (¬(a6 = (-1)))))] S := by
  rw [b55_49]
  by_cases h : a3 = 0
  · simp only [if_pos h, b55_63, qb, h, ↓reduceIte, true_and, not_true_eq_false, false_or, true_or, false_and, or_true]
  · simp only [if_neg h, m55_53, qb, h, ↓reduceIte, false_and, not_false_eq_true, true_or, true_and, false_or, or_true]
theorem m55_40 (d : Nat) (a0 a1 a2 a3 a4 a5 a6 s0 : Int) (x7 : zV) (S : zS) : zF_55 d 40 [vr a0, vr a1, vi a2, vi a3, vi a4, vi a5, vi a6, x7] [vi s0] S = zF_55 d 64 [vr a0, vr a1, vi a2, vu, vi a4, vi a5, vi a6, vi s0] [vi (qb ((a5 = 60) ∨ (¬(a3 = 0) ∧ (¬(a6 = (-1))))))] S := by
  rw [b55_40]
  by_cases h : a5 = 60
  · simp only [if_pos h, b55_59, qb, h, ↓reduceIte, true_and, not_true_eq_false, false_or, true_or, false_and, or_true]
  · simp only [if_neg h, m55_49, qb, h, ↓reduceIte, false_and, not_false_eq_true, true_or, true_and, false_or, or_true]
theorem m56_113 (d : Nat) (a1 : Int) (x0 : zV) (S : zS) : zF_56 d 113 [x0, vi a1] [] S = zF_56 d 124 [vu, vu] [vi (if a1 = 0 then 32 else 125)] S := by
  rw [b56_113]
  by_cases h : a1 = 0
  · simp only [if_pos h, b56_122, qb, ↓reduceIte, true_and, not_true_eq_false, false_or, true_or, false_and, or_true]
  · simp only [if_neg h, b56_117, qb, ↓reduceIte, false_and, not_false_eq_true, true_or, true_and, false_or, or_true]
theorem m56_101 (d : Nat) (a1 : Int) (x0 : zV) (S : zS) : zF_56 d 101 [x0, vi a1] [] S = zF_56 d 112 [vu, vu] [vi (if a1 = 0 then 32 else 123)] S := by
  rw [b56_101]
  by_cases h : a1 = 0
  · simp only [if_pos h, b56_110, qb, ↓reduceIte, true_and, not_true_eq_false, false_or, true_or, false_and, or_true]
  · simp only [if_neg h, b56_105, qb, ↓reduceIte, false_and, not_false_eq_true, true_or, true_and, false_or, or_true]
theorem m56_89 (d : Nat) (a1 : Int) (x0 : zV) (S : zS) : zF_56 d 89 [x0, vi a1] [] S = zF_56 d 100 [vu, vu] [vi (if a1 = 0 then 32 else 93)] S := by
  rw [b56_89]
  by_cases h : a1 = 0
  · simp only [if_pos h, b56_98, qb, ↓reduceIte, true_and, not_true_eq_false, false_or, true_or, false_and, or_true]
  · simp only [if_neg h, b56_93, qb, ↓reduceIte, false_and, not_false_eq_true, true_or, true_and, false_or, or_true]
theorem m56_77 (d : Nat) (a1 : Int) (x0 : zV) (S : zS) : zF_56 d 77 [x0, vi a1] [] S = zF_56 d 88 [vu, vu] [vi (if a1 = 0 then 32 else 91)] S := by
  rw [b56_77]
  by_cases h : a1 = 0
  · simp only [if_pos h, b56_86, qb, ↓reduceIte, true_and, not_true_eq_false, false_or, true_or, false_and, or_true]
  · simp only [if_neg h, b56_81, qb, ↓reduceIte, false_and, not_false_eq_true, true_or, true_and, false_or, or_true]
theorem m59_32 (d : Nat) (a0 : Int) (x1 : zV) (S : zS) : zF_59 d 32 [vr a0, x1] [] S = zchk ((zk S a0).1 = 26) (zchk ((zk S a0).1 = 26) (zF_59 d 48 [vu, vu] [vi (qb (zm S a0 2 = zm S a0 1))] S)) := by
  rw [b59_32]
  by_cases h : zm S a0 2 = zm S a0 1
  · simp only [if_pos h, b59_43, qb, h, ↓reduceIte, true_and, not_true_eq_false, false_or, true_or, false_and, or_true]
  · simp only [if_neg h, b59_47, qb, h, ↓reduceIte, false_and, not_false_eq_true, true_or, true_and, false_or, or_true]
theorem m70_118 (d : Nat) (s0 : Int) (x0 x1 x2 x3 x4 : zV) (S : zS) : zF_70 d 118 [x0, x1, x2, x3, x4] [vi s0] S = zF_70 d 126 [vu, vu, vu, vu, vu] [vi (qb (¬(s0 = 0)))] S := by
  rw [b70_118]
  by_cases h : s0 = 0
  · simp only [if_pos h, b70_125, qb, h, ↓reduceIte, true_and, not_true_eq_false, false_or, true_or, false_and, or_true]
  · simp only [if_neg h, b70_121, qb, h, ↓reduceIte, false_and, not_false_eq_true, true_or, true_and, false_or, or_true]
theorem m71_23 (d : Nat) (a0 a1 : Int) (S : zS) : zF_71 d 23 [vr a0, vi a1] [] S = zchk ((zk S a0).1 = 26) (zchk (((zk S (zm S a0 4)).1 = 2 ∨ (zk S (zm S a0 4)).1 = 2) ∧ 0 ≤ a1 ∧ a1 < (zk S (zm S a0 4)).2) (zF_71 d 39 [vu, vu] [vi (qb (zm S (zm S a0 4) a1 = 97))] S)) := by
  rw [b71_23]
  by_cases h : zm S (zm S a0 4) a1 = 97
  · simp only [if_pos h, b71_34, qb, h, ↓reduceIte, true_and, not_true_eq_false, false_or, true_or, false_and, or_true]
  · simp only [if_neg h, b71_38, qb, h, ↓reduceIte, false_and, not_false_eq_true, true_or, true_and, false_or, or_true]
theorem m77_33 (d : Nat) (a0 : Int) (S : zS) : zF_77 d 33 [vi a0] [] S = zF_77 d 46 [vu] [vi (if a0 = 47 then 12 else 34)] S := by
  rw [b77_33]
  by_cases h : a0 = 47
  · simp only [if_pos h, b77_39, qb, ↓reduceIte, true_and, not_true_eq_false, false_or, true_or, false_and, or_true]
  · simp only [if_neg h, b77_44, qb, ↓reduceIte, false_and, not_false_eq_true, true_or, true_and, false_or, or_true]
theorem m77_22 (d : Nat) (a0 : Int) (S : zS) : zF_77 d 22 [vi a0] [] S = zF_77 d 46 [vu] [vi (if a0 = 46 then 20 else (if a0 = 47 then 12 else 34))] S := by
  rw [b77_22]
  by_cases h : a0 = 46
  · simp only [if_pos h, b77_28, qb, ↓reduceIte, true_and, not_true_eq_false, false_or, true_or, false_and, or_true]
  · simp only [if_neg h, m77_33, qb, ↓reduceIte, false_and, not_false_eq_true, true_or, true_and, false_or, or_true]
theorem m77_11 (d : Nat) (a0 : Int) (S : zS) : zF_77 d 11 [vi a0] [] S = zF_77 d 46 [vu] [vi (if a0 = 45 then 36 else (if a0 = 46 then 20 else (if a0 = 47 then 12 else 34)))] S := by
  rw [b77_11]
  by_cases h : a0 = 45
  · simp only [if_pos h, b77_17, qb, ↓reduceIte, true_and, not_true_eq_false, false_or, true_or, false_and, or_true]
  · simp only [if_neg h, m77_22, qb, ↓reduceIte, false_and, not_false_eq_true, true_or, true_and, false_or, or_true]
theorem m77_0 (d : Nat) (a0 : Int) (S : zS) : zF_77 d 0 [vi a0] [] S = zF_77 d 46 [vu] [vi (if a0 = 43 then 22 else (if a0 = 45 then 36 else (if a0 = 46 then 20 else (if a0 = 47 then 12 else 34))))] S := by
  rw [b77_0]
  by_cases h : a0 = 43
  · simp only [if_pos h, b77_6, qb, ↓reduceIte, true_and, not_true_eq_false, false_or, true_or, false_and, or_true]
  · simp only [if_neg h, m77_11, qb, ↓reduceIte, false_and, not_false_eq_true, true_or, true_and, false_or, or_true]
theorem m78_16 (d : Nat) (a0 : Int) (S : zS) : zF_78 d 16 [vi a0] [] S = zF_78 d 27 [vu] [vi (if a0 = 94 then 2 else 1)] S := by
  rw [b78_16]
  by_cases h : a0 = 94
  · simp only [if_pos h, b78_22, qb, ↓reduceIte, true_and, not_true_eq_false, false_or, true_or, false_and, or_true]
  · simp only [if_neg h, b78_26, qb, ↓reduceIte, false_and, not_false_eq_true, true_or, true_and, false_or, or_true]
theorem m78_6 (d : Nat) (a0 : Int) (S : zS) : zF_78 d 6 [vi a0] [] S = zF_78 d 27 [vu] [vi (if a0 = 45 then 0 else (if a0 = 94 then 2 else 1))] S := by
  rw [b78_6]
  by_cases h : a0 = 45
  · simp only [if_pos h, b78_12, qb, ↓reduceIte, true_and, not_true_eq_false, false_or, true_or, false_and, or_true]
  · simp only [if_neg h, m78_16, qb, ↓reduceIte, false_and, not_false_eq_true, true_or, true_and, false_or, or_true]
theorem m78_0 (d : Nat) (a0 : Int) (S : zS) : zF_78 d 0 [vi a0] [] S = zF_78 d 27 [vu] [vi (if a0 = 43 then 0 else (if a0 = 45 then 0 else (if a0 = 94 then 2 else 1)))] S := by
  rw [b78_0]
  by_cases h : a0 = 43
  · simp only [if_pos h, b78_12, qb, ↓reduceIte, true_and, not_true_eq_false, false_or, true_or, false_and, or_true]
  · simp only [if_neg h, m78_6, qb, ↓reduceIte, false_and, not_false_eq_true, true_or, true_and, false_or, or_true]
theorem m79_83 (d : Nat) (s0 s1 : Int) (x0 x1 x2 x3 x4 x5 : zV) (S : zS) : zF_79 d 83 [x0, x1, x2, x3, x4, x5] [vi s1, vi s0] S = zF_79 d 91 [vu, vu, vu, vu, vu, vu] [vi (qb (s0 = s1))] S := by
  rw [b79_83]
  by_cases h : s0 = s1
  · simp only [if_pos h, b79_86, qb, h, ↓reduceIte, true_and, not_true_eq_false, false_or, true_or, false_and, or_true]
  · simp only [if_neg h, b79_90, qb, h, ↓reduceIte, false_and, not_false_eq_true, true_or, true_and, false_or, or_true]
theorem m79_71 (d : Nat) (a3 a4 : Int) (x0 x1 x2 x5 : zV) (S : zS) : zF_79 d 71 [x0, x1, x2, vi a3, vi a4, x5] [] S = zF_79 d 83 [vu, vu, vu, vu, vu, vu] [vi (qb (a4 < 2)), vi a3] S := by
  rw [b79_71]
  by_cases h : a4 < 2
  · simp only [if_pos h, b79_78, qb, h, ↓reduceIte, true_and, not_true_eq_false, false_or, true_or, false_and, or_true]
  · simp only [if_neg h, b79_82, qb, h, ↓reduceIte, false_and, not_false_eq_true, true_or, true_and, false_or, or_true]
theorem m84_10 (d : Nat) (s0 : Int) (x0 x1 : zV) (S : zS) : zF_84 d 10 [x0, x1] [vi s0] S = zF_84 d 18 [vu, vu] [vi (qb (¬(s0 = 0)))] S := by
  rw [b84_10]
  by_cases h : s0 = 0
  · simp only [if_pos h, b84_17, qb, h, ↓reduceIte, true_and, not_true_eq_false, false_or, true_or, false_and, or_true]
  · simp only [if_neg h, b84_13, qb, h, ↓reduceIte, false_and, not_false_eq_true, true_or, true_and, false_or, or_true]
theorem m86_63 (d : Nat) (s0 : Int) (x0 x1 : zV) (S : zS) : zF_86 d 63 [x0, x1] [vi s0] S = zF_86 d 71 [vu, vu] [vi (qb (¬(s0 = 0)))] S := by
  rw [b86_63]
  by_cases h : s0 = 0
  · simp only [if_pos h, b86_70, qb, h, ↓reduceIte, true_and, not_true_eq_false, false_or, true_or, false_and, or_true]
  · simp only [if_neg h, b86_66, qb, h, ↓reduceIte, false_and, not_false_eq_true, true_or, true_and, false_or, or_true]
theorem m88_31 (d : Nat) (a0 : Int) (S : zS) : zF_88 d 31 [vi a0] [] S = zF_88 d 42 [vu] [vi (qb (a0 = 41))] S := by
  rw [b88_31]
  by_cases h : a0 = 41
  · simp only [if_pos h, b88_37, qb, h, ↓reduceIte, true_and, not_true_eq_false, false_or, true_or, false_and, or_true]
  · simp only [if_neg h, b88_41, qb, h, ↓reduceIte, false_and, not_false_eq_true, true_or, true_and, false_or, or_true]
theorem m88_25 (d : Nat) (a0 : Int) (S : zS) : zF_88 d 25 [vi a0] [] S = zF_88 d 42 [vu] [vi (qb ((a0 = 40) ∨ (a0 = 41)))] S := by
  rw [b88_25]
  by_cases h : a0 = 40
  · simp only [if_pos h, b88_37, qb, h, ↓reduceIte, true_and, not_true_eq_false, false_or, true_or, false_and, or_true]
  · simp only [if_neg h, m88_31, qb, h, ↓reduceIte, false_and, not_false_eq_true, true_or, true_and, false_or, or_true]
theorem m88_19 (d : Nat) (a0 : Int) (S : zS) : zF_88 d 19 [vi a0] [] S = zF_88 d 42 [vu] [vi (qb ((a0 = 94) ∨ ((a0 = 40) ∨ (a0 = 41))))] S := by
  rw [b88_19]
  by_cases h : a0 = 94
  · simp only [if_pos h, b88_37, qb, h, ↓reduceIte, true_and, not_true_eq_false, false_or, true_or, false_and, or_true]
  · simp only [if_neg h, m88_25, qb, h, ↓reduceIte, false_and, not_false_eq_true, true_or, true_and, false_or, or_true]
theorem m88_13 (d : Nat) (a0 : Int) (S : zS) : zF_88 d 13 [vi a0] [] S = zF_88 d 42 [vu] [vi (qb ((a0 = 45) ∨ ((a0 = 94) ∨ ((a0 = 40) ∨ (a0 = 41)))))] S := by
  rw [b88_13]
  by_cases h : a0 = 45
  · simp only [if_pos h, b88_37, qb, h, ↓reduceIte, true_and, not_true_eq_false, false_or, true_or, false_and, or_true]
  · simp only [if_neg h, m88_19, qb, h, ↓reduceIte, false_and, not_false_eq_true, true_or, true_and, false_or, or_true]
theorem m88_7 (d : Nat) (a0 : Int) (S : zS) : zF_88 d 7 [vi a0] [] S = zF_88 d 42 [vu] [vi (qb ((a0 = 43) ∨ ((a0 = 45) ∨ ((a0 = 94) ∨ ((a0 = 40) ∨ (a0 = 41))))))] S := by
  rw [b88_7]
  by_cases h : a0 = 43
  · simp only [if_pos h, b88_37, qb, h, ↓reduceIte, true_and, not_true_eq_false, false_or, true_or, false_and, or_true]
  · simp only [if_neg h, m88_13, qb, h, ↓reduceIte, false_and, not_false_eq_true, true_or, true_and, false_or, or_true]
theorem m88_4 (d : Nat) (a0 s0 : Int) (S : zS) : zF_88 d 4 [vi a0] [vi s0] S = zF_88 d 42 [vu] [vi (qb (¬(s0 = 0) ∨ ((a0 = 43) ∨ ((a0 = 45) ∨ ((a0 = 94) ∨ ((a0 = 40) ∨ (a0 = 41)))))))] S := by
  rw [b88_4]
  by_cases h : s0 = 0
  · simp only [if_pos h, m88_7, qb, h, ↓reduceIte, true_and, not_true_eq_false, false_or, true_or, false_and, or_true]
  · simp only [if_neg h, b88_37, qb, h, ↓reduceIte, false_and, not_false_eq_true, true_or, true_and, false_or, or_true]
theorem m89_6 (d : Nat) (a0 : Int) (S : zS) : zF_89 d 6 [vi a0] [] S = zF_89 d 17 [vu] [vi (qb (¬(122 < a0)))] S := by
  rw [b89_6]
  by_cases h : 122 < a0
  · simp only [if_pos h, b89_16, qb, h, ↓reduceIte, true_and, not_true_eq_false, false_or, true_or, false_and, or_true]
  · simp only [if_neg h, b89_12, qb, h, ↓reduceIte, false_and, not_false_eq_true, true_or, true_and, false_or, or_true]
theorem m89_0 (d : Nat) (a0 : Int) (S : zS) : zF_89 d 0 [vi a0] [] S = zF_89 d 17 [vu] [vi (qb (¬(a0 < 97) ∧ (¬(122 < a0))))] S := by
  rw [b89_0]
  by_cases h : a0 < 97
  · simp only [if_pos h, b89_16, qb, h, ↓reduceIte, true_and, not_true_eq_false, false_or, true_or, false_and, or_true]
  · simp only [if_neg h, m89_6, qb, h, ↓reduceIte, false_and, not_false_eq_true, true_or, true_and, false_or, or_true]
theorem m90_6 (d : Nat) (a0 : Int) (S : zS) : zF_90 d 6 [vi a0] [] S = zF_90 d 17 [vu] [vi (qb (¬(57 < a0)))] S := by
  rw [b90_6]
  by_cases h : 57 < a0
  · simp only [if_pos h, b90_16, qb, h, ↓reduceIte, true_and, not_true_eq_false, false_or, true_or, false_and, or_true]
  · simp only [if_neg h, b90_12, qb, h, ↓reduceIte, false_and, not_false_eq_true, true_or, true_and, false_or, or_true]
theorem m90_0 (d : Nat) (a0 : Int) (S : zS) : zF_90 d 0 [vi a0] [] S = zF_90 d 17 [vu] [vi (qb (¬(a0 < 48) ∧ (¬(57 < a0))))] S := by
  rw [b90_0]
  by_cases h : a0 < 48
  · simp only [if_pos h, b90_16, qb, h, ↓reduceIte, true_and, not_true_eq_false, false_or, true_or, false_and, or_true]
  · simp only [if_neg h, m90_6, qb, h, ↓reduceIte, false_and, not_false_eq_true, true_or, true_and, false_or, or_true]
theorem m91_67 (d : Nat) (s0 : Int) (x0 : zV) (S : zS) : zF_91 d 67 [x0] [vi s0] S = zF_91 d 75 [vu] [vi (if s0 = 0 then 0 else 5)] S := by
  rw [b91_67]
  by_cases h : s0 = 0
  · simp only [if_pos h, b91_74, qb, ↓reduceIte, true_and, not_true_eq_false, false_or, true_or, false_and, or_true]
  · simp only [if_neg h, b91_70, qb, ↓reduceIte, false_and, not_false_eq_true, true_or, true_and, false_or, or_true]
theorem m92_32 (d : Nat) (a0 : Int) (S : zS) : zF_92 d 32 [vi a0] [] S = zF_92 d 44 [vu] [vi (if a0 = 46 then 50 else 0)] S := by
  rw [b92_32]
  by_cases h : a0 = 46
  · simp only [if_pos h, b92_38, qb, ↓reduceIte, true_and, not_true_eq_false, false_or, true_or, false_and, or_true]
  · simp only [if_neg h, b92_43, qb, ↓reduceIte, false_and, not_false_eq_true, true_or, true_and, false_or, or_true]
theorem m92_21 (d : Nat) (a0 : Int) (S : zS) : zF_92 d 21 [vi a0] [] S = zF_92 d 44 [vu] [vi (if a0 = 63 then 38 else (if a0 = 46 then 50 else 0))] S := by
  rw [b92_21]
  by_cases h : a0 = 63
  · simp only [if_pos h, b92_27, qb, ↓reduceIte, true_and, not_true_eq_false, false_or, true_or, false_and, or_true]
  · simp only [if_neg h, m92_32, qb, ↓reduceIte, false_and, not_false_eq_true, true_or, true_and, false_or, or_true]
theorem m92_10 (d : Nat) (a0 : Int) (S : zS) : zF_92 d 10 [vi a0] [] S = zF_92 d 44 [vu] [vi (if a0 = 59 then 6 else (if a0 = 63 then 38 else (if a0 = 46 then 50 else 0)))] S := by
  rw [b92_10]
  by_cases h : a0 = 59
  · simp only [if_pos h, b92_16, qb, ↓reduceIte, true_and, not_true_eq_false, false_or, true_or, false_and, or_true]
  · simp only [if_neg h, m92_21, qb, ↓reduceIte, false_and, not_false_eq_true, true_or, true_and, false_or, or_true]
theorem m92_0 (d : Nat) (a0 : Int) (S : zS) : zF_92 d 0 [vi a0] [] S = zF_92 d 44 [vu] [vi (if a0 = 44 then 2 else (if a0 = 59 then 6 else (if a0 = 63 then 38 else (if a0 = 46 then 50 else 0))))] S := by
  rw [b92_0]
  by_cases h : a0 = 44
  · simp only [if_pos h, b92_6, qb, ↓reduceIte, true_and, not_true_eq_false, false_or, true_or, false_and, or_true]
  · simp only [if_neg h, m92_10, qb, ↓reduceIte, false_and, not_false_eq_true, true_or, true_and, false_or, or_true]
theorem m95_161 (d : Nat) (a0 : Int) (x1 x2 x3 : zV) (S : zS) : zF_95 d 161 [vi a0, x1, x2, x3] [] S = zF_95 d 173 [vu, vu, vu, vu] [vi (if a0 = 6 then (-1) else 6)] S := by
  rw [b95_161]
  by_cases h : a0 = 6
  · simp only [if_pos h, b95_172, qb, ↓reduceIte, true_and, not_true_eq_false, false_or, true_or, false_and, or_true]
  · simp only [if_neg h, b95_167, qb, ↓reduceIte, false_and, not_false_eq_true, true_or, true_and, false_or, or_true]
theorem m95_149 (d : Nat) (a1 : Int) (x0 x2 x3 : zV) (S : zS) : zF_95 d 149 [x0, vi a1, x2, x3] [] S = zF_95 d 160 [vu, vu, vu, vu] [vi (if a1 < 6 then 5 else (-1))] S := by
  rw [b95_149]
  by_cases h : a1 < 6
  · simp only [if_pos h, b95_155, qb, ↓reduceIte, true_and, not_true_eq_false, false_or, true_or, false_and, or_true]
  · simp only [if_neg h, b95_159, qb, ↓reduceIte, false_and, not_false_eq_true, true_or, true_and, false_or, or_true]
theorem m95_144 (d : Nat) (a0 a1 : Int) (x2 x3 : zV) (S : zS) : zF_95 d 144 [vi a0, vi a1, x2, x3] [] S = zF_95 d 160 [vu, vu, vu, vu] [vi (if a0 = 5 then (if a1 < 6 then 5 else (-1)) else (-1))] S := by
  rw [b95_144]
  by_cases h : a0 = 5
  · simp only [if_pos h, m95_149, qb, ↓reduceIte, true_and, not_true_eq_false, false_or, true_or, false_and, or_true]
  · simp only [if_neg h, b95_159, qb, ↓reduceIte, false_and, not_false_eq_true, true_or, true_and, false_or, or_true]
theorem m95_134 (d : Nat) (a3 : Int) (x0 x1 x2 : zV) (S : zS) : zF_95 d 134 [x0, x1, x2, vi a3] [] S = zF_95 d 143 [vu, vu, vu, vu] [vi (if a3 = 0 then (-1) else 4)] S := by
  rw [b95_134]
  by_cases h : a3 = 0
  · simp only [if_pos h, b95_142, qb, ↓reduceIte, true_and, not_true_eq_false, false_or, true_or, false_and, or_true]
  · simp only [if_neg h, b95_138, qb, ↓reduceIte, false_and, not_false_eq_true, true_or, true_and, false_or, or_true]
theorem m95_129 (d : Nat) (a0 a3 : Int) (x1 x2 : zV) (S : zS) : zF_95 d 129 [vi a0, x1, x2, vi a3] [] S = zF_95 d 143 [vu, vu, vu, vu] [vi (if a0 = 4 then (if a3 = 0 then (-1) else 4) else (-1))] S := by
  rw [b95_129]
  by_cases h : a0 = 4
  · simp only [if_pos h, m95_134, qb, ↓reduceIte, true_and, not_true_eq_false, false_or, true_or, false_and, or_true]
  · simp only [if_neg h, b95_142, qb, ↓reduceIte, false_and, not_false_eq_true, true_or, true_and, false_or, or_true]
theorem m95_124 (d : Nat) (a0 a3 : Int) (x1 x2 : zV) (S : zS) : zF_95 d 124 [vi a0, x1, x2, vi a3] [] S = zF_95 d 143 [vu, vu, vu, vu] [vi (if a0 = 3 then (if a3 = 0 then (-1) else 4) else (if a0 = 4 then (if a3 = 0 then (-1) else 4) else (-1)))] S := by
  rw [b95_124]
  by_cases h : a0 = 3
  · simp only [if_pos h, m95_134, qb, ↓reduceIte, true_and, not_true_eq_false, false_or, true_or, false_and, or_true]
  · simp only [if_neg h, m95_129, qb, ↓reduceIte, false_and, not_false_eq_true, true_or, true_and, false_or, or_true]
theorem m95_114 (d : Nat) (a3 : Int) (x0 x1 x2 : zV) (S : zS) : zF_95 d 114 [x0, x1, x2, vi a3] [] S = zF_95 d 123 [vu, vu, vu, vu] [vi (if a3 = 0 then (-1) else 2)] S := by
  rw [b95_114]
  by_cases h : a3 = 0
  · simp only [if_pos h, b95_122, qb, ↓reduceIte, true_and, not_true_eq_false, false_or, true_or, false_and, or_true]
  · simp only [if_neg h, b95_118, qb, ↓reduceIte, false_and, not_false_eq_true, true_or, true_and, false_or, or_true]
theorem m95_109 (d : Nat) (a0 a3 : Int) (x1 x2 : zV) (S : zS) : zF_95 d 109 [vi a0, x1, x2, vi a3] [] S = zF_95 d 123 [vu, vu, vu, vu] [vi (if a0 = 3 then (if a3 = 0 then (-1) else 2) else (-1))] S := by
  rw [b95_109]
  by_cases h : a0 = 3
  · simp only [if_pos h, m95_114, qb, ↓reduceIte, true_and, not_true_eq_false, false_or, true_or, false_and, or_true]
  · simp only [if_neg h, b95_122, qb, ↓reduceIte, false_and, not_false_eq_true, true_or, true_and, false_or, or_true]
theorem m95_104 (d : Nat) (a0 a3 : Int) (x1 x2 : zV) (S : zS) : zF_95 d 104 [vi a0, x1, x2, vi a3] [] S = zF_95 d 123 [vu, vu, vu, vu] [vi (if a0 = 2 then (if a3 = 0 then (-1) else 2) else (if a0 = 3 then (if a3 = 0 then (-1) else 2) else (-1)))] S := by
  rw [b95_104]
  by_cases h : a0 = 2
  · simp only [if_pos h, m95_114, qb, ↓reduceIte, true_and, not_true_eq_false, false_or, true_or, false_and, or_true]
  · simp only [if_neg h, m95_109, qb, ↓reduceIte, false_and, not_false_eq_true, true_or, true_and, false_or, or_true]
theorem m95_58 (d : Nat) (a0 a1 a2 : Int) (x3 : zV) (S : zS) : zF_95 d 58 [vi a0, vi a1, vi a2, x3] [] S = zF_95 d 69 [vi a0, vi a1, vi a2, vu] [vi (qb (a1 < 10))] S := by
  rw [b95_58]
  by_cases h : a1 < 10
  · simp only [if_pos h, b95_64, qb, h, ↓reduceIte, true_and, not_true_eq_false, false_or, true_or, false_and, or_true]
  · simp only [if_neg h, b95_68, qb, h, ↓reduceIte, false_and, not_false_eq_true, true_or, true_and, false_or, or_true]
theorem m95_40 (d : Nat) (a0 : Int) (x1 x2 x3 : zV) (S : zS) : zF_95 d 40 [vi a0, x1, x2, x3] [] S = zF_95 d 49 [vu, vu, vu, vu] [vi (if a0 = 0 then 1 else (-1))] S := by
  rw [b95_40]
  by_cases h : a0 = 0
  · simp only [if_pos h, b95_44, qb, ↓reduceIte, true_and, not_true_eq_false, false_or, true_or, false_and, or_true]
  · simp only [if_neg h, b95_48, qb, ↓reduceIte, false_and, not_false_eq_true, true_or, true_and, false_or, or_true]
theorem m96_21 (d : Nat) (a0 a1 a2 s0 : Int) (S : zS) : zF_96 d 21 [vr a0, vi a1, vi a2] [vi s0] S = zF_96 d 29 [vr a0, vi (if s0 = 6 then (z32 (a1 + 1)) else a1), vi a2] [] S := by
  rw [b96_21]
  by_cases h : s0 = 6
  · simp only [if_pos h, b96_26, qb, ↓reduceIte, true_and, not_true_eq_false, false_or, true_or, false_and, or_true]
  · simp only [if_neg h, qb, ↓reduceIte, false_and, not_false_eq_true, true_or, true_and, false_or, or_true]
theorem m98_38 (d : Nat) (a0 a2 : Int) (x1 x3 : zV) (S : zS) : zF_98 d 38 [vr a0, x1, vi a2, x3] [] S = zchk ((zk S a0).1 = 29) (zF_98 d 51 [vu, vu, vu, vu] [vi (qb (¬(a2 < zm S a0 1)))] S) := by
  rw [b98_38]
  by_cases h : a2 < zm S a0 1
  · simp only [if_pos h, b98_50, qb, h, ↓reduceIte, true_and, not_true_eq_false, false_or, true_or, false_and, or_true]
  · simp only [if_neg h, b98_46, qb, h, ↓reduceIte, false_and, not_false_eq_true, true_or, true_and, false_or, or_true]
theorem m99_64 (d : Nat) (a0 a1 : Int) (S : zS) : zF_99 d 64 [vr a0, vi a1] [] S = zchk ((zk S a0).1 = 29) (zF_99 d 82 [vu, vu] [vi (qb (¬(10 < z32 ((zm S a0 1) - (z32 (a1 - 1))))))] S) := by
  rw [b99_64]
  by_cases h : 10 < z32 ((zm S a0 1) - (z32 (a1 - 1)))
  · simp only [if_pos h, b99_81, qb, h, ↓reduceIte, true_and, not_true_eq_false, false_or, true_or, false_and, or_true]
  · simp only [if_neg h, b99_77, qb, h, ↓reduceIte, false_and, not_false_eq_true, true_or, true_and, false_or, or_true]
theorem m101_86 (d : Nat) (a0 a1 a2 a4 a5 s0 : Int) (x3 x6 : zV) (S : zS) : zF_101 d 86 [vr a0, vi a1, vi a2, x3, vi a4, vi a5, x6] [vi s0] S = zF_101 d 94 [vr a0, vi a1, vi a2, vu, vi a4, vi a5, vu] [vi (qb (¬(s0 = 0)))] S := by
  rw [b101_86]
  by_cases h : s0 = 0
  · simp only [if_pos h, b101_93, qb, h, ↓reduceIte, true_and, not_true_eq_false, false_or, true_or, false_and, or_true]
  · simp only [if_neg h, b101_89, qb, h, ↓reduceIte, false_and, not_false_eq_true, true_or, true_and, false_or, or_true]
theorem m104_12 (d : Nat) (a0 a1 a2 a3 : Int) (S : zS) : zF_104 d 12 [vr a0, vi a1, vi a2, vi a3] [] S = zchk ((zk S a0).1 = 30) (zchk (((zk S (zm S a0 1)).1 = 0 ∨ (zk S (zm S a0 1)).1 = 40) ∧ 0 ≤ a3 ∧ a3 < (zk S (zm S a0 1)).2) (zF_104 d 25 [vr a0, vi a1, vi (if zm S (zm S a0 1) a3 = a1 then (z32 (a2 + 1)) else a2), vi a3] [] S)) := by
  rw [b104_12]
  by_cases h : zm S (zm S a0 1) a3 = a1
  · simp only [if_pos h, b104_22, qb, ↓reduceIte, true_and, not_true_eq_false, false_or, true_or, false_and, or_true]
  · simp only [if_neg h, qb, ↓reduceIte, false_and, not_false_eq_true, true_or, true_and, false_or, or_true]
theorem m130_44 (d : Nat) (s0 : Int) (x0 x1 : zV) (S : zS) : zF_130 d 44 [x0, x1] [vi s0] S = zF_130 d 52 [vu, vu] [vi (qb (¬(s0 = 0)))] S := by
  rw [b130_44]
  by_cases h : s0 = 0
  · simp only [if_pos h, b130_51, qb, h, ↓reduceIte, true_and, not_true_eq_false, false_or, true_or, false_and, or_true]
  · simp only [if_neg h, b130_47, qb, h, ↓reduceIte, false_and, not_false_eq_true, true_or, true_and, false_or, or_true]
theorem m130_9 (d : Nat) (a0 a1 : Int) (S : zS) : zF_130 d 9 [vr a0, vi a1] [] S = zchk ((zk S a0).1 = 32) (zchk ((zk S a0).1 = 32) (zF_130 d 27 [vr a0, vu] [vi (qb (a1 = 1)), vr (zm S a0 16), vr (zm S a0 17)] S)) := by
  rw [b130_9]
  by_cases h : a1 = 1
  · simp only [if_pos h, b130_22, qb, h, ↓reduceIte, true_and, not_true_eq_false, false_or, true_or, false_and, or_true]
  · simp only [if_neg h, b130_26, qb, h, ↓reduceIte, false_and, not_false_eq_true, true_or, true_and, false_or, or_true]
theorem m133_97 (d : Nat) (a5 : Int) (x0 x1 x2 x3 x4 : zV) (S : zS) : zF_133 d 97 [x0, x1, x2, x3, x4, vr a5] [] S = zchk ((zk S a5).1 = 21) (zchk ((zk S (zm S a5 1)).1 = 31) (zF_133 d 113 [vu, vu, vu, vu, vu, vu] [vi (qb (¬(zm S (zm S a5 1) 2 = 0)))] S)) := by
  rw [b133_97]
  by_cases h : zm S (zm S a5 1) 2 = 0
  · simp only [if_pos h, b133_112, qb, h, ↓reduceIte, true_and, not_true_eq_false, false_or, true_or, false_and, or_true]
  · simp only [if_neg h, b133_108, qb, h, ↓reduceIte, false_and, not_false_eq_true, true_or, true_and, false_or, or_true]
theorem m149_97 (d : Nat) (a0 a2 a3 a4 a5 a6 : Int) (x1 x7 : zV) (S : zS) : zF_149 d 97 [vr a0, x1, vi a2, vi a3, vi a4, vi a5, vi a6, x7] [] S = zF_149 d 107 [vr a0, vu, vi a2, vi a3, vi a4, vi (if a6 < a4 then (z32 (a5 + 1)) else a5), vi a6, vu] [] S := by
  rw [b149_97]
  by_cases h : a6 < a4
  · simp only [if_pos h, b149_104, qb, ↓reduceIte, true_and, not_true_eq_false, false_or, true_or, false_and, or_true]
  · simp only [if_neg h, qb, ↓reduceIte, false_and, not_false_eq_true, true_or, true_and, false_or, or_true]
theorem m162_33 (d : Nat) (a0 a1 : Int) (S : zS) : zF_162 d 33 [vr a0, vi a1] [] S = zchk ((zk S a0).1 = 32) (zF_162 d 47 [vu, vu] [vi (qb (a1 = 1)), vr (zm S a0 16)] S) := by
  rw [b162_33]
  by_cases h : a1 = 1
  · simp only [if_pos h, b162_42, qb, h, ↓reduceIte, true_and, not_true_eq_false, false_or, true_or, false_and, or_true]
  · simp only [if_neg h, b162_46, qb, h, ↓reduceIte, false_and, not_false_eq_true, true_or, true_and, false_or, or_true]
theorem m167_57 (d : Nat) (a1 a2 a3 a4 s0 : Int) (S : zS) : zF_167 d 57 [vu, vr a1, vi a2, vi a3, vi a4] [vi s0] S = zF_167 d 63 [vu, vr a1, vi a2, vi (if s0 = 0 then a3 else (z32 (a3 + 1))), vi a4] [] S := by
  rw [b167_57]
  by_cases h : s0 = 0
  · simp only [if_pos h, qb, ↓reduceIte, true_and, not_true_eq_false, false_or, true_or, false_and, or_true]
  · simp only [if_neg h, b167_60, qb, ↓reduceIte, false_and, not_false_eq_true, true_or, true_and, false_or, or_true]
theorem m169_76 (d : Nat) (a0 a1 a2 a3 s0 : Int) (x4 : zV) (S : zS) : zF_169 d 76 [vr a0, vr a1, vi a2, vi a3, x4] [vi s0] S = zF_169 d 82 [vr a0, vr a1, vi (if s0 = 0 then (z32 (a2 + 1)) else a2), vi a3, vu] [] S := by
  rw [b169_76]
  by_cases h : s0 = 0
  · simp only [if_pos h, b169_79, qb, ↓reduceIte, true_and, not_true_eq_false, false_or, true_or, false_and, or_true]
  · simp only [if_neg h, qb, ↓reduceIte, false_and, not_false_eq_true, true_or, true_and, false_or, or_true]
theorem m171_70 (d : Nat) (a0 a1 a2 a3 a4 a5 s0 : Int) (x6 : zV) (S : zS) : zF_171 d 70 [vr a0, vr a1, vi a2, vi a3, vi a4, vi a5, x6] [vr s0] S = zchk ((zk S s0).1 = 27) (zF_171 d 82 [vr a0, vr a1, vi a2, vi a3, vi a4, vi a5, vu] [vi (qb (zm S s0 2 < 2))] S) := by
  rw [b171_70]
  by_cases h : zm S s0 2 < 2
  · simp only [if_pos h, b171_77, qb, h, ↓reduceIte, true_and, not_true_eq_false, false_or, true_or, false_and, or_true]
  · simp only [if_neg h, b171_81, qb, h, ↓reduceIte, false_and, not_false_eq_true, true_or, true_and, false_or, or_true]
theorem m176_17 (d : Nat) (a0 : Int) (S : zS) : zF_176 d 17 [vi a0] [] S = zF_176 d 28 [vu] [vi (qb (a0 = 50))] S := by
  rw [b176_17]
  by_cases h : a0 = 50
  · simp only [if_pos h, b176_23, qb, h, ↓reduceIte, true_and, not_true_eq_false, false_or, true_or, false_and, or_true]
  · simp only [if_neg h, b176_27, qb, h, ↓reduceIte, false_and, not_false_eq_true, true_or, true_and, false_or, or_true]
theorem m176_11 (d : Nat) (a0 : Int) (S : zS) : zF_176 d 11 [vi a0] [] S = zF_176 d 28 [vu] [vi (qb ((a0 = 38) ∨ (a0 = 50)))] S := by
  rw [b176_11]
  by_cases h : a0 = 38
  · simp only [if_pos h, b176_23, qb, h, ↓reduceIte, true_and, not_true_eq_false, false_or, true_or, false_and, or_true]
  · simp only [if_neg h, m176_17, qb, h, ↓reduceIte, false_and, not_false_eq_true, true_or, true_and, false_or, or_true]
theorem m176_5 (d : Nat) (a0 : Int) (S : zS) : zF_176 d 5 [vi a0] [] S = zF_176 d 28 [vu] [vi (qb ((a0 = 6) ∨ ((a0 = 38) ∨ (a0 = 50))))] S := by
  rw [b176_5]
  by_cases h : a0 = 6
  · simp only [if_pos h, b176_23, qb, h, ↓reduceIte, true_and, not_true_eq_false, false_or, true_or, false_and, or_true]
  · simp only [if_neg h, m176_11, qb, h, ↓reduceIte, false_and, not_false_eq_true, true_or, true_and, false_or, or_true]
theorem m176_0 (d : Nat) (a0 : Int) (S : zS) : zF_176 d 0 [vi a0] [] S = zF_176 d 28 [vu] [vi (qb ((a0 = 2) ∨ ((a0 = 6) ∨ ((a0 = 38) ∨ (a0 = 50)))))] S := by
  rw [b176_0]
  by_cases h : a0 = 2
  · simp only [if_pos h, b176_23, qb, h, ↓reduceIte, true_and, not_true_eq_false, false_or, true_or, false_and, or_true]
  · simp only [if_neg h, m176_5, qb, h, ↓reduceIte, false_and, not_false_eq_true, true_or, true_and, false_or, or_true]
theorem m177_24 (d : Nat) (a0 : Int) (S : zS) : zF_177 d 24 [vi a0] [] S = zF_177 d 35 [vu] [vi (qb (a0 = 36))] S := by
  rw [b177_24]
  by_cases h : a0 = 36
  · simp only [if_pos h, b177_30, qb, h, ↓reduceIte, true_and, not_true_eq_false, false_or, true_or, false_and, or_true]
  · simp only [if_neg h, b177_34, qb, h, ↓reduceIte, false_and, not_false_eq_true, true_or, true_and, false_or, or_true]
theorem m177_18 (d : Nat) (a0 : Int) (S : zS) : zF_177 d 18 [vi a0] [] S = zF_177 d 35 [vu] [vi (qb ((a0 = 60) ∨ (a0 = 36)))] S := by
  rw [b177_18]
  by_cases h : a0 = 60
  · simp only [if_pos h, b177_30, qb, h, ↓reduceIte, true_and, not_true_eq_false, false_or, true_or, false_and, or_true]
  · simp only [if_neg h, m177_24, qb, h, ↓reduceIte, false_and, not_false_eq_true, true_or, true_and, false_or, or_true]
theorem m177_12 (d : Nat) (a0 : Int) (S : zS) : zF_177 d 12 [vi a0] [] S = zF_177 d 35 [vu] [vi (qb ((a0 = 48) ∨ ((a0 = 60) ∨ (a0 = 36))))] S := by
  rw [b177_12]
  by_cases h : a0 = 48
  · simp only [if_pos h, b177_30, qb, h, ↓reduceIte, true_and, not_true_eq_false, false_or, true_or, false_and, or_true]
  · simp only [if_neg h, m177_18, qb, h, ↓reduceIte, false_and, not_false_eq_true, true_or, true_and, false_or, or_true]
theorem m177_6 (d : Nat) (a0 : Int) (S : zS) : zF_177 d 6 [vi a0] [] S = zF_177 d 35 [vu] [vi (qb ((a0 = 32) ∨ ((a0 = 48) ∨ ((a0 = 60) ∨ (a0 = 36)))))] S := by
  rw [b177_6]
  by_cases h : a0 = 32
  · simp only [if_pos h, b177_30, qb, h, ↓reduceIte, true_and, not_true_eq_false, false_or, true_or, false_and, or_true]
  · simp only [if_neg h, m177_12, qb, h, ↓reduceIte, false_and, not_false_eq_true, true_or, true_and, false_or, or_true]
theorem m177_0 (d : Nat) (a0 : Int) (S : zS) : zF_177 d 0 [vi a0] [] S = zF_177 d 35 [vu] [vi (qb ((a0 = 40) ∨ ((a0 = 32) ∨ ((a0 = 48) ∨ ((a0 = 60) ∨ (a0 = 36))))))] S := by
  rw [b177_0]
  by_cases h : a0 = 40
  · simp only [if_pos h, b177_30, qb, h, ↓reduceIte, true_and, not_true_eq_false, false_or, true_or, false_and, or_true]
  · simp only [if_neg h, m177_6, qb, h, ↓reduceIte, false_and, not_false_eq_true, true_or, true_and, false_or, or_true]
theorem m178_21 (d : Nat) (s0 : Int) (x0 : zV) (S : zS) : zF_178 d 21 [x0] [vi s0] S = zF_178 d 29 [vu] [vi (qb (s0 = 0))] S := by
  rw [b178_21]
  by_cases h : s0 = 0
  · simp only [if_pos h, b178_24, qb, h, ↓reduceIte, true_and, not_true_eq_false, false_or, true_or, false_and, or_true]
  · simp only [if_neg h, b178_28, qb, h, ↓reduceIte, false_and, not_false_eq_true, true_or, true_and, false_or, or_true]
theorem m182_0 (d : Nat) (a0 a1 : Int) (S : zS) : zF_182 d 0 [vr a0, vi a1] [] S = zchk ((zk S a0).1 = 33) (zF_182 d 14 [vu, vu] [vi (qb (a1 = 0))] (zput S a0 0 a1)) := by
  rw [b182_0]
  by_cases h : a1 = 0
  · simp only [if_pos h, b182_9, qb, h, ↓reduceIte, true_and, not_true_eq_false, false_or, true_or, false_and, or_true]
  · simp only [if_neg h, b182_13, qb, h, ↓reduceIte, false_and, not_false_eq_true, true_or, true_and, false_or, or_true]
theorem m183_5 (d : Nat) (a0 a2 : Int) (x1 : zV) (S : zS) : zF_183 d 5 [vi a0, x1, vi a2] [] S = zF_183 d 15 [vu, vu, vu] [vi (qb (¬(a2 < a0)))] S := by
  rw [b183_5]
  by_cases h : a2 < a0
  · simp only [if_pos h, b183_14, qb, h, ↓reduceIte, true_and, not_true_eq_false, false_or, true_or, false_and, or_true]
  · simp only [if_neg h, b183_10, qb, h, ↓reduceIte, false_and, not_false_eq_true, true_or, true_and, false_or, or_true]
theorem m183_0 (d : Nat) (a0 a1 a2 : Int) (S : zS) : zF_183 d 0 [vi a0, vi a1, vi a2] [] S = zF_183 d 15 [vu, vu, vu] [vi (qb (¬(a0 < a1) ∧ (¬(a2 < a0))))] S := by
  rw [b183_0]
  by_cases h : a0 < a1
  · simp only [if_pos h, b183_14, qb, h, ↓reduceIte, true_and, not_true_eq_false, false_or, true_or, false_and, or_true]
  · simp only [if_neg h, m183_5, qb, h, ↓reduceIte, false_and, not_false_eq_true, true_or, true_and, false_or, or_true]
theorem m187_18 (d : Nat) (a0 : Int) (S : zS) : zF_187 d 18 [vi a0] [] S = zF_187 d 29 [vu] [vi (qb (a0 = 63))] S := by
  rw [b187_18]
  by_cases h : a0 = 63
  · simp only [if_pos h, b187_24, qb, h, ↓reduceIte, true_and, not_true_eq_false, false_or, true_or, false_and, or_true]
  · simp only [if_neg h, b187_28, qb, h, ↓reduceIte, false_and, not_false_eq_true, true_or, true_and, false_or, or_true]
theorem m187_12 (d : Nat) (a0 : Int) (S : zS) : zF_187 d 12 [vi a0] [] S = zF_187 d 29 [vu] [vi (qb ((a0 = 59) ∨ (a0 = 63)))] S := by
  rw [b187_12]
  by_cases h : a0 = 59
  · simp only [if_pos h, b187_24, qb, h, ↓reduceIte, true_and, not_true_eq_false, false_or, true_or, false_and, or_true]
  · simp only [if_neg h, m187_18, qb, h, ↓reduceIte, false_and, not_false_eq_true, true_or, true_and, false_or, or_true]
theorem m187_6 (d : Nat) (a0 : Int) (S : zS) : zF_187 d 6 [vi a0] [] S = zF_187 d 29 [vu] [vi (qb ((a0 = 46) ∨ ((a0 = 59) ∨ (a0 = 63))))] S := by
  rw [b187_6]
  by_cases h : a0 = 46
  · simp only [if_pos h, b187_24, qb, h, ↓reduceIte, true_and, not_true_eq_false, false_or, true_or, false_and, or_true]
  · simp only [if_neg h, m187_12, qb, h, ↓reduceIte, false_and, not_false_eq_true, true_or, true_and, false_or, or_true]
theorem m187_0 (d : Nat) (a0 : Int) (S : zS) : zF_187 d 0 [vi a0] [] S = zF_187 d 29 [vu] [vi (qb ((a0 = 44) ∨ ((a0 = 46) ∨ ((a0 = 59) ∨ (a0 = 63)))))] S := by
  rw [b187_0]
  by_cases h : a0 = 44
  · simp only [if_pos h, b187_24, qb, h, ↓reduceIte, true_and, not_true_eq_false, false_or, true_or, false_and, or_true]
  · simp only [if_neg h, m187_6, qb, h, ↓reduceIte, false_and, not_false_eq_true, true_or, true_and, false_or, or_true]
theorem m188_12 (d : Nat) (a0 : Int) (S : zS) : zF_188 d 12 [vi a0] [] S = zF_188 d 23 [vu] [vi (qb (a0 = 124))] S := by
  rw [b188_12]
  by_cases h : a0 = 124
  · simp only [if_pos h, b188_18, qb, h, ↓reduceIte, true_and, not_true_eq_false, false_or, true_or, false_and, or_true]
  · simp only [if_neg h, b188_22, qb, h, ↓reduceIte, false_and, not_false_eq_true, true_or, true_and, false_or, or_true]
theorem m188_6 (d : Nat) (a0 : Int) (S : zS) : zF_188 d 6 [vi a0] [] S = zF_188 d 23 [vu] [vi (qb ((a0 = 47) ∨ (a0 = 124)))] S := by
  rw [b188_6]
  by_cases h : a0 = 47
  · simp only [if_pos h, b188_18, qb, h, ↓reduceIte, true_and, not_true_eq_false, false_or, true_or, false_and, or_true]
  · simp only [if_neg h, m188_12, qb, h, ↓reduceIte, false_and, not_false_eq_true, true_or, true_and, false_or, or_true]
theorem m188_0 (d : Nat) (a0 : Int) (S : zS) : zF_188 d 0 [vi a0] [] S = zF_188 d 23 [vu] [vi (qb ((a0 = 32) ∨ ((a0 = 47) ∨ (a0 = 124))))] S := by
  rw [b188_0]
  by_cases h : a0 = 32
  · simp only [if_pos h, b188_18, qb, h, ↓reduceIte, true_and, not_true_eq_false, false_or, true_or, false_and, or_true]
  · simp only [if_neg h, m188_6, qb, h, ↓reduceIte, false_and, not_false_eq_true, true_or, true_and, false_or, or_true]
theorem m189_79 (d : Nat) (a0 : Int) (S : zS) : zF_189 d 79 [vi a0] [] S = zF_189 d 90 [vu] [vi (qb (a0 = 41))] S := by
  rw [b189_79]
  by_cases h : a0 = 41
  · simp only [if_pos h, b189_85, qb, h, ↓reduceIte, true_and, not_true_eq_false, false_or, true_or, false_and, or_true]
  · simp only [if_neg h, b189_89, qb, h, ↓reduceIte, false_and, not_false_eq_true, true_or, true_and, false_or, or_true]
theorem m189_73 (d : Nat) (a0 : Int) (S : zS) : zF_189 d 73 [vi a0] [] S = zF_189 d 90 [vu] [vi (qb ((a0 = 40) ∨ (a0 = 41)))] S := by
  rw [b189_73]
  by_cases h : a0 = 40
  · simp only [if_pos h, b189_85, qb, h, ↓reduceIte, true_and, not_true_eq_false, false_or, true_or, false_and, or_true]
  · simp only [if_neg h, m189_79, qb, h, ↓reduceIte, false_and, not_false_eq_true, true_or, true_and, false_or, or_true]
theorem m189_67 (d : Nat) (a0 : Int) (S : zS) : zF_189 d 67 [vi a0] [] S = zF_189 d 90 [vu] [vi (qb ((a0 = 94) ∨ ((a0 = 40) ∨ (a0 = 41))))] S := by
  rw [b189_67]
  by_cases h : a0 = 94
  · simp only [if_pos h, b189_85, qb, h, ↓reduceIte, true_and, not_true_eq_false, false_or, true_or, false_and, or_true]
  · simp only [if_neg h, m189_73, qb, h, ↓reduceIte, false_and, not_false_eq_true, true_or, true_and, false_or, or_true]
theorem m189_61 (d : Nat) (a0 : Int) (S : zS) : zF_189 d 61 [vi a0] [] S = zF_189 d 90 [vu] [vi (qb ((a0 = 45) ∨ ((a0 = 94) ∨ ((a0 = 40) ∨ (a0 = 41)))))] S := by
  rw [b189_61]
  by_cases h : a0 = 45
  · simp only [if_pos h, b189_85, qb, h, ↓reduceIte, true_and, not_true_eq_false, false_or, true_or, false_and, or_true]
  · simp only [if_neg h, m189_67, qb, h, ↓reduceIte, false_and, not_false_eq_true, true_or, true_and, false_or, or_true]
theorem m189_55 (d : Nat) (a0 : Int) (S : zS) : zF_189 d 55 [vi a0] [] S = zF_189 d 90 [vu] [vi (qb ((a0 = 43) ∨ ((a0 = 45) ∨ ((a0 = 94) ∨ ((a0 = 40) ∨ (a0 = 41))))))] S := by
  rw [b189_55]
  by_cases h : a0 = 43
  · simp only [if_pos h, b189_85, qb, h, ↓reduceIte, true_and, not_true_eq_false, false_or, true_or, false_and, or_true]
  · simp only [if_neg h, m189_61, qb, h, ↓reduceIte, false_and, not_false_eq_true, true_or, true_and, false_or, or_true]
theorem m189_49 (d : Nat) (a0 : Int) (S : zS) : zF_189 d 49 [vi a0] [] S = zF_189 d 90 [vu] [vi (qb ((a0 = 42) ∨ ((a0 = 43) ∨ ((a0 = 45) ∨ ((a0 = 94) ∨ ((a0 = 40) ∨ (a0 = 41)))))))] S := by
  rw [b189_49]
  by_cases h : a0 = 42
  · simp only [if_pos h, b189_85, qb, h, ↓reduceIte, true_and, not_true_eq_false, false_or, true_or, false_and, or_true]
  · simp only [if_neg h, m189_55, qb, h, ↓reduceIte, false_and, not_false_eq_true, true_or, true_and, false_or, or_true]
theorem m189_46 (d : Nat) (a0 s0 : Int) (S : zS) : zF_189 d 46 [vi a0] [vi s0] S = zF_189 d 90 [vu] [vi (qb (¬(s0 = 0) ∨ ((a0 = 42) ∨ ((a0 = 43) ∨ ((a0 = 45) ∨ ((a0 = 94) ∨ ((a0 = 40) ∨ (a0 = 41))))))))] S := by
  rw [b189_46]
  by_cases h : s0 = 0
  · simp only [if_pos h, m189_49, qb, h, ↓reduceIte, true_and, not_true_eq_false, false_or, true_or, false_and, or_true]
  · simp only [if_neg h, b189_85, qb, h, ↓reduceIte, false_and, not_false_eq_true, true_or, true_and, false_or, or_true]
theorem m193_21 (d : Nat) (a0 : Int) (S : zS) : zF_193 d 21 [vi a0] [] S = zF_193 d 34 [vu] [vi (if a0 = 63 then 38 else 50)] S := by
  rw [b193_21]
  by_cases h : a0 = 63
  · simp only [if_pos h, b193_27, qb, ↓reduceIte, true_and, not_true_eq_false, false_or, true_or, false_and, or_true]
  · simp only [if_neg h, b193_32, qb, ↓reduceIte, false_and, not_false_eq_true, true_or, true_and, false_or, or_true]
theorem m193_10 (d : Nat) (a0 : Int) (S : zS) : zF_193 d 10 [vi a0] [] S = zF_193 d 34 [vu] [vi (if a0 = 59 then 6 else (if a0 = 63 then 38 else 50))] S := by
  rw [b193_10]
  by_cases h : a0 = 59
  · simp only [if_pos h, b193_16, qb, ↓reduceIte, true_and, not_true_eq_false, false_or, true_or, false_and, or_true]
  · simp only [if_neg h, m193_21, qb, ↓reduceIte, false_and, not_false_eq_true, true_or, true_and, false_or, or_true]
theorem m193_0 (d : Nat) (a0 : Int) (S : zS) : zF_193 d 0 [vi a0] [] S = zF_193 d 34 [vu] [vi (if a0 = 44 then 2 else (if a0 = 59 then 6 else (if a0 = 63 then 38 else 50)))] S := by
  rw [b193_0]
  by_cases h : a0 = 44
  · simp only [if_pos h, b193_6, qb, ↓reduceIte, true_and, not_true_eq_false, false_or, true_or, false_and, or_true]
  · simp only [if_neg h, m193_10, qb, ↓reduceIte, false_and, not_false_eq_true, true_or, true_and, false_or, or_true]
theorem m194_32 (d : Nat) (a0 : Int) (S : zS) : zF_194 d 32 [vi a0] [] S = zF_194 d 44 [vu] [vi (if a0 = 50 then 46 else 0)] S := by
  rw [b194_32]
  by_cases h : a0 = 50
  · simp only [if_pos h, b194_38, qb, ↓reduceIte, true_and, not_true_eq_false, false_or, true_or, false_and, or_true]
  · simp only [if_neg h, b194_43, qb, ↓reduceIte, false_and, not_false_eq_true, true_or, true_and, false_or, or_true]
theorem m194_21 (d : Nat) (a0 : Int) (S : zS) : zF_194 d 21 [vi a0] [] S = zF_194 d 44 [vu] [vi (if a0 = 38 then 63 else (if a0 = 50 then 46 else 0))] S := by
  rw [b194_21]
  by_cases h : a0 = 38
  · simp only [if_pos h, b194_27, qb, ↓reduceIte, true_and, not_true_eq_false, false_or, true_or, false_and, or_true]
  · simp only [if_neg h, m194_32, qb, ↓reduceIte, false_and, not_false_eq_true, true_or, true_and, false_or, or_true]
theorem m194_10 (d : Nat) (a0 : Int) (S : zS) : zF_194 d 10 [vi a0] [] S = zF_194 d 44 [vu] [vi (if a0 = 6 then 59 else (if a0 = 38 then 63 else (if a0 = 50 then 46 else 0)))] S := by
  rw [b194_10]
  by_cases h : a0 = 6
  · simp only [if_pos h, b194_16, qb, ↓reduceIte, true_and, not_true_eq_false, false_or, true_or, false_and, or_true]
  · simp only [if_neg h, m194_21, qb, ↓reduceIte, false_and, not_false_eq_true, true_or, true_and, false_or, or_true]
theorem m194_0 (d : Nat) (a0 : Int) (S : zS) : zF_194 d 0 [vi a0] [] S = zF_194 d 44 [vu] [vi (if a0 = 2 then 44 else (if a0 = 6 then 59 else (if a0 = 38 then 63 else (if a0 = 50 then 46 else 0))))] S := by
  rw [b194_0]
  by_cases h : a0 = 2
  · simp only [if_pos h, b194_5, qb, ↓reduceIte, true_and, not_true_eq_false, false_or, true_or, false_and, or_true]
  · simp only [if_neg h, m194_10, qb, ↓reduceIte, false_and, not_false_eq_true, true_or, true_and, false_or, or_true]
theorem m195_54 (d : Nat) (s0 : Int) (x0 x1 : zV) (S : zS) : zF_195 d 54 [x0, x1] [vi s0] S = zF_195 d 62 [vu, vu] [vi (qb (s0 = 0))] S := by
  rw [b195_54]
  by_cases h : s0 = 0
  · simp only [if_pos h, b195_57, qb, h, ↓reduceIte, true_and, not_true_eq_false, false_or, true_or, false_and, or_true]
  · simp only [if_neg h, b195_61, qb, h, ↓reduceIte, false_and, not_false_eq_true, true_or, true_and, false_or, or_true]
theorem m195_24 (d : Nat) (a0 : Int) (x1 : zV) (S : zS) : zF_195 d 24 [vi a0, x1] [] S = zF_195 d 35 [vi a0, vu] [vi (qb (a0 = 36))] S := by
  rw [b195_24]
  by_cases h : a0 = 36
  · simp only [if_pos h, b195_30, qb, h, ↓reduceIte, true_and, not_true_eq_false, false_or, true_or, false_and, or_true]
  · simp only [if_neg h, b195_34, qb, h, ↓reduceIte, false_and, not_false_eq_true, true_or, true_and, false_or, or_true]
theorem m195_18 (d : Nat) (a0 : Int) (x1 : zV) (S : zS) : zF_195 d 18 [vi a0, x1] [] S = zF_195 d 35 [vi a0, vu] [vi (qb ((a0 = 60) ∨ (a0 = 36)))] S := by
  rw [b195_18]
  by_cases h : a0 = 60
  · simp only [if_pos h, b195_30, qb, h, ↓reduceIte, true_and, not_true_eq_false, false_or, true_or, false_and, or_true]
  · simp only [if_neg h, m195_24, qb, h, ↓reduceIte, false_and, not_false_eq_true, true_or, true_and, false_or, or_true]
theorem m195_12 (d : Nat) (a0 : Int) (x1 : zV) (S : zS) : zF_195 d 12 [vi a0, x1] [] S = zF_195 d 35 [vi a0, vu] [vi (qb ((a0 = 48) ∨ ((a0 = 60) ∨ (a0 = 36))))] S := by
  rw [b195_12]
  by_cases h : a0 = 48
  · simp only [if_pos h, b195_30, qb, h, ↓reduceIte, true_and, not_true_eq_false, false_or, true_or, false_and, or_true]
  · simp only [if_neg h, m195_18, qb, h, ↓reduceIte, false_and, not_false_eq_true, true_or, true_and, false_or, or_true]
theorem m195_6 (d : Nat) (a0 : Int) (x1 : zV) (S : zS) : zF_195 d 6 [vi a0, x1] [] S = zF_195 d 35 [vi a0, vu] [vi (qb ((a0 = 32) ∨ ((a0 = 48) ∨ ((a0 = 60) ∨ (a0 = 36)))))] S := by
  rw [b195_6]
  by_cases h : a0 = 32
  · simp only [if_pos h, b195_30, qb, h, ↓reduceIte, true_and, not_true_eq_false, false_or, true_or, false_and, or_true]
  · simp only [if_neg h, m195_12, qb, h, ↓reduceIte, false_and, not_false_eq_true, true_or, true_and, false_or, or_true]
theorem m195_0 (d : Nat) (a0 : Int) (S : zS) : zF_195 d 0 [vi a0, vu] [] S = zF_195 d 35 [vi a0, vu] [vi (qb ((a0 = 40) ∨ ((a0 = 32) ∨ ((a0 = 48) ∨ ((a0 = 60) ∨ (a0 = 36))))))] S := by
  rw [b195_0]
  by_cases h : a0 = 40
  · simp only [if_pos h, b195_30, qb, h, ↓reduceIte, true_and, not_true_eq_false, false_or, true_or, false_and, or_true]
  · simp only [if_neg h, m195_6, qb, h, ↓reduceIte, false_and, not_false_eq_true, true_or, true_and, false_or, or_true]
theorem m196_63 (d : Nat) (a0 a1 a3 s0 : Int) (x2 x4 x5 : zV) (S : zS) : zF_196 d 63 [vr a0, vl a1, x2, vi a3, x4, x5] [vr s0] S = zchk ((zk S a0).1 = 33) (zF_196 d 79 [vr a0, vl a1, vu, vi a3, vu, vu] [vi (if 60 < z32 ((zm S a0 2) + a3) then 2 else 0), vr s0] S) := by
  rw [b196_63]
  by_cases h : 60 < z32 ((zm S a0 2) + a3)
  · simp only [if_pos h, b196_74, qb, ↓reduceIte, true_and, not_true_eq_false, false_or, true_or, false_and, or_true]
  · simp only [if_neg h, b196_78, qb, ↓reduceIte, false_and, not_false_eq_true, true_or, true_and, false_or, or_true]
theorem m200_52 (d : Nat) (s0 : Int) (x0 x1 x2 : zV) (S : zS) : zF_200 d 52 [x0, x1, x2] [vi s0] S = zF_200 d 60 [vu, vu, vu] [vi (qb (¬(s0 = 0)))] S := by
  rw [b200_52]
  by_cases h : s0 = 0
  · simp only [if_pos h, b200_59, qb, h, ↓reduceIte, true_and, not_true_eq_false, false_or, true_or, false_and, or_true]
  · simp only [if_neg h, b200_55, qb, h, ↓reduceIte, false_and, not_false_eq_true, true_or, true_and, false_or, or_true]
theorem m201_175 (d : Nat) (s0 s1 : Int) (x0 x1 x2 x3 x4 : zV) (S : zS) : zF_201 d 175 [x0, x1, x2, x3, x4] [vi s1, vi s0] S = zF_201 d 183 [vu, vu, vu, vu, vu] [vi (qb (¬(s1 = 0))), vi s0] S := by
  rw [b201_175]
  by_cases h : s1 = 0
  · simp only [if_pos h, b201_182, qb, h, ↓reduceIte, true_and, not_true_eq_false, false_or, true_or, false_and, or_true]
  · simp only [if_neg h, b201_178, qb, h, ↓reduceIte, false_and, not_false_eq_true, true_or, true_and, false_or, or_true]
theorem m201_145 (d : Nat) (a0 a2 a3 s0 : Int) (x1 x4 : zV) (S : zS) : zF_201 d 145 [vr a0, x1, vi a2, vi a3, x4] [vi s0] S = zF_201 d 158 [vr a0, vu, vi a2, vi a3, vu] [vi (if s0 = 0 then 0 else 2)] S := by
  rw [b201_145]
  by_cases h : s0 = 0
  · simp only [if_pos h, b201_152, qb, ↓reduceIte, true_and, not_true_eq_false, false_or, true_or, false_and, or_true]
  · simp only [if_neg h, b201_148, qb, ↓reduceIte, false_and, not_false_eq_true, true_or, true_and, false_or, or_true]
theorem m201_95 (d : Nat) (a0 a2 a3 s0 : Int) (x1 x4 : zV) (S : zS) : zF_201 d 95 [vr a0, x1, vi a2, vi a3, x4] [vi s0] S = zF_201 d 103 [vr a0, vu, vi a2, vi a3, vu] [vi (qb (¬(s0 = 0)))] S := by
  rw [b201_95]
  by_cases h : s0 = 0
  · simp only [if_pos h, b201_102, qb, h, ↓reduceIte, true_and, not_true_eq_false, false_or, true_or, false_and, or_true]
  · simp only [if_neg h, b201_98, qb, h, ↓reduceIte, false_and, not_false_eq_true, true_or, true_and, false_or, or_true]
theorem m201_6 (d : Nat) (a0 s0 s1 : Int) (x1 x2 x3 x4 : zV) (S : zS) : zF_201 d 6 [vr a0, x1, x2, x3, x4] [vi s1, vi s0] S = zF_201 d 16 [vr a0, vu, vu, vu, vu] [vi (qb (s1 = 42)), vi s0] S := by
  rw [b201_6]
  by_cases h : s1 = 42
  · simp only [if_pos h, b201_11, qb, h, ↓reduceIte, true_and, not_true_eq_false, false_or, true_or, false_and, or_true]
  · simp only [if_neg h, b201_15, qb, h, ↓reduceIte, false_and, not_false_eq_true, true_or, true_and, false_or, or_true]
theorem m204_21 (d : Nat) (a0 a2 s0 s1 : Int) (x1 : zV) (S : zS) : zF_204 d 21 [vr a0, x1, vi a2] [vi s1, vi s0] S = zF_204 d 29 [vr a0, vu, vi a2] [vi (qb (¬(s1 = 0))), vi s0] S := by
  rw [b204_21]
  by_cases h : s1 = 0
  · simp only [if_pos h, b204_28, qb, h, ↓reduceIte, true_and, not_true_eq_false, false_or, true_or, false_and, or_true]
  · simp only [if_neg h, b204_24, qb, h, ↓reduceIte, false_and, not_false_eq_true, true_or, true_and, false_or, or_true]
theorem m205_4 (d : Nat) (a0 s0 : Int) (S : zS) : zF_205 d 4 [vi a0] [vi s0] S = zF_205 d 19 [vi a0] [vi (if s0 = 0 then a0 else ((z32 ((z32 (a0 - 65)) + 97)) % 65536))] S := by
  rw [b205_4]
  by_cases h : s0 = 0
  · simp only [if_pos h, b205_18, qb, ↓reduceIte, true_and, not_true_eq_false, false_or, true_or, false_and, or_true]
  · simp only [if_neg h, b205_7, qb, ↓reduceIte, false_and, not_false_eq_true, true_or, true_and, false_or, or_true]
theorem m206_136 (d : Nat) (a0 a2 a3 s0 s1 : Int) (x1 x4 x5 : zV) (S : zS) : zF_206 d 136 [vr a0, x1, vi a2, vi a3, x4, x5] [vi s1, vr s0] S = zF_206 d 144 [vr a0, vu, vi a2, vi a3, vu, vu] [vi (if s1 = 0 then 1 else 2), vr s0] S := by
  rw [b206_136]
  by_cases h : s1 = 0
  · simp only [if_pos h, b206_143, qb, ↓reduceIte, true_and, not_true_eq_false, false_or, true_or, false_and, or_true]
  · simp only [if_neg h, b206_139, qb, ↓reduceIte, false_and, not_false_eq_true, true_or, true_and, false_or, or_true]
theorem m206_50 (d : Nat) (a0 a2 a3 s0 : Int) (x1 x4 x5 : zV) (S : zS) : zF_206 d 50 [vr a0, x1, vi a2, vi a3, x4, x5] [vi s0] S = zF_206 d 60 [vr a0, vu, vi a2, vi a3, vu, vu] [vi (if s0 = 0 then a2 else (z32 (a2 - 1)))] S := by
  rw [b206_50]
  by_cases h : s0 = 0
  · simp only [if_pos h, b206_59, qb, ↓reduceIte, true_and, not_true_eq_false, false_or, true_or, false_and, or_true]
  · simp only [if_neg h, b206_53, qb, ↓reduceIte, false_and, not_false_eq_true, true_or, true_and, false_or, or_true]
theorem m206_22 (d : Nat) (a0 a1 a2 s0 s1 : Int) (x3 x4 x5 : zV) (S : zS) : zF_206 d 22 [vr a0, vi a1, vi a2, x3, x4, x5] [vi s1, vr s0] S = zchk ((zk S s0).1 = 33) (zchk (0 ≤ s1 ∧ s1 ≤ 1) (zchk ((zk (zput S s0 32 s1) a0).1 = 33) (zF_206 d 38 [vr a0, vu, vi a2, vu, vu, vu] [vi (qb (¬(zm (zput S s0 32 s1) a0 32 = 0))), vi a1] (zput S s0 32 s1)))) := by
  rw [b206_22]
  by_cases h : zm (zput S s0 32 s1) a0 32 = 0
  · simp only [if_pos h, b206_37, qb, h, ↓reduceIte, true_and, not_true_eq_false, false_or, true_or, false_and, or_true]
  · simp only [if_neg h, b206_33, qb, h, ↓reduceIte, false_and, not_false_eq_true, true_or, true_and, false_or, or_true]
theorem m206_12 (d : Nat) (a0 a1 a2 s0 s1 : Int) (x3 x4 x5 : zV) (S : zS) : zF_206 d 12 [vr a0, vi a1, vi a2, x3, x4, x5] [vi s1, vr s0] S = zF_206 d 22 [vr a0, vi a1, vi a2, vu, vu, vu] [vi (qb (s1 = 42)), vr s0] S := by
  rw [b206_12]
  by_cases h : s1 = 42
  · simp only [if_pos h, b206_17, qb, h, ↓reduceIte, true_and, not_true_eq_false, false_or, true_or, false_and, or_true]
  · simp only [if_neg h, b206_21, qb, h, ↓reduceIte, false_and, not_false_eq_true, true_or, true_and, false_or, or_true]
theorem m207_70 (d : Nat) (a0 a1 a3 s0 s1 : Int) (S : zS) : zF_207 d 70 [vr a0, vi a1, vu, vi a3] [vr s1, vi s0] S = zchk (((zk S s1).1 = 2 ∨ (zk S s1).1 = 2) ∧ 0 ≤ a3 ∧ a3 < (zk S s1).2) (zF_207 d 80 [vr a0, vi a1, vu, vi a3] [vi (qb (s0 = zm S s1 a3))] S) := by
  rw [b207_70]
  by_cases h : s0 = zm S s1 a3
  · simp only [if_pos h, b207_75, qb, h, ↓reduceIte, true_and, not_true_eq_false, false_or, true_or, false_and, or_true]
  · simp only [if_neg h, b207_79, qb, h, ↓reduceIte, false_and, not_false_eq_true, true_or, true_and, false_or, or_true]
theorem m207_22 (d : Nat) (a0 a1 : Int) (x2 x3 : zV) (S : zS) : zF_207 d 22 [vr a0, vi a1, x2, x3] [] S = zchk ((zk S a0).1 = 33) (zchk (((zk S (zm S a0 14)).1 = 0 ∨ (zk S (zm S a0 14)).1 = 40) ∧ 0 ≤ a1 ∧ a1 < (zk S (zm S a0 14)).2) (zchk ((zk S a0).1 = 33) (zF_207 d 40 [vr a0, vi a1, vu, vu] [vi (qb (zm S (zm S a0 14) a1 = zm S a0 36))] S))) := by
  rw [b207_22]
  by_cases h : zm S (zm S a0 14) a1 = zm S a0 36
  · simp only [if_pos h, b207_35, qb, h, ↓reduceIte, true_and, not_true_eq_false, false_or, true_or, false_and, or_true]
  · simp only [if_neg h, b207_39, qb, h, ↓reduceIte, false_and, not_false_eq_true, true_or, true_and, false_or, or_true]
theorem m208_0 (d : Nat) (a0 : Int) (S : zS) : zF_208 d 0 [vr a0] [] S = zchk ((zk S a0).1 = 33) (zF_208 d 14 [vr a0] [vi (qb (zm S a0 4 = 3)), vr a0] S) := by
  rw [b208_0]
  by_cases h : zm S a0 4 = 3
  · simp only [if_pos h, b208_9, qb, h, ↓reduceIte, true_and, not_true_eq_false, false_or, true_or, false_and, or_true]
  · simp only [if_neg h, b208_13, qb, h, ↓reduceIte, false_and, not_false_eq_true, true_or, true_and, false_or, or_true]
theorem m210_30 (d : Nat) (a0 a1 a3 : Int) (x2 : zV) (S : zS) : zF_210 d 30 [vr a0, vi a1, x2, vi a3] [] S = zchk ((zk S a0).1 = 33) (zchk (((zk S (zm S a0 17)).1 = 0 ∨ (zk S (zm S a0 17)).1 = 40) ∧ 0 ≤ a3 ∧ a3 < (zk S (zm S a0 17)).2) (zF_210 d 45 [vr a0, vi a1, vu, vi a3] [vi (qb (zm S (zm S a0 17) a3 = a1))] S)) := by
  rw [b210_30]
  by_cases h : zm S (zm S a0 17) a3 = a1
  · simp only [if_pos h, b210_40, qb, h, ↓reduceIte, true_and, not_true_eq_false, false_or, true_or, false_and, or_true]
  · simp only [if_neg h, b210_44, qb, h, ↓reduceIte, false_and, not_false_eq_true, true_or, true_and, false_or, or_true]
theorem m211_144 (d : Nat) (a0 a1 a2 a3 a4 a5 s0 s1 : Int) (x6 x7 x8 x9 : zV) (S : zS) : zF_211 d 144 [vr a0, vi a1, vi a2, vi a3, vi a4, vi a5, x6, x7, x8, x9] [vi s1, vr s0] S = zF_211 d 152 [vr a0, vi a1, vi a2, vi a3, vi a4, vi a5, vu, vu, vu, vu] [vi (if s1 = 0 then 0 else 3), vr s0] S := by
  rw [b211_144]
  by_cases h : s1 = 0
  · simp only [if_pos h, b211_151, qb, ↓reduceIte, true_and, not_true_eq_false, false_or, true_or, false_and, or_true]
  · simp only [if_neg h, b211_147, qb, ↓reduceIte, false_and, not_false_eq_true, true_or, true_and, false_or, or_true]
theorem m211_86 (d : Nat) (a0 a1 a2 a3 a4 a5 a7 s0 : Int) (x6 x8 x9 : zV) (S : zS) : zF_211 d 86 [vr a0, vi a1, vi a2, vi a3, vi a4, vi a5, x6, vi a7, x8, x9] [vi s0] S = zF_211 d 94 [vr a0, vi a1, vi a2, vi a3, vi a4, vi a5, vu, vi a7, vu, vu] [vi (qb (¬(s0 = 0)))] S := by
  rw [b211_86]
  by_cases h : s0 = 0
  · simp only [if_pos h, b211_93, qb, h, ↓reduceIte, true_and, not_true_eq_false, false_or, true_or, false_and, or_true]
  · simp only [if_neg h, b211_89, qb, h, ↓reduceIte, false_and, not_false_eq_true, true_or, true_and, false_or, or_true]
theorem m211_49 (d : Nat) (a0 a1 a2 a3 a4 a5 s0 : Int) (x6 x7 x8 x9 : zV) (S : zS) : zF_211 d 49 [vr a0, vi a1, vi a2, vi a3, vi a4, vi a5, x6, x7, x8, x9] [vi s0] S = zF_211 d 57 [vr a0, vi a1, vi a2, vi a3, vi a4, vi a5, vu, vu, vu, vu] [vi (qb (¬(s0 = 0)))] S := by
  rw [b211_49]
  by_cases h : s0 = 0
  · simp only [if_pos h, b211_56, qb, h, ↓reduceIte, true_and, not_true_eq_false, false_or, true_or, false_and, or_true]
  · simp only [if_neg h, b211_52, qb, h, ↓reduceIte, false_and, not_false_eq_true, true_or, true_and, false_or, or_true]
theorem m212_52 (d : Nat) (a0 a2 a3 : Int) (x1 : zV) (S : zS) : zF_212 d 52 [vr a0, x1, vi a2, vi a3] [] S = zchk ((zk S a0).1 = 33) (zchk (((zk S (zm S a0 1)).1 = 2 ∨ (zk S (zm S a0 1)).1 = 2) ∧ 0 ≤ a3 ∧ a3 < (zk S (zm S a0 1)).2) (zF_212 d 68 [vr a0, vu, vi a2, vi a3] [vi (qb (zm S (zm S a0 1) a3 = 32))] S)) := by
  rw [b212_52]
  by_cases h : zm S (zm S a0 1) a3 = 32
  · simp only [if_pos h, b212_63, qb, h, ↓reduceIte, true_and, not_true_eq_false, false_or, true_or, false_and, or_true]
  · simp only [if_neg h, b212_67, qb, h, ↓reduceIte, false_and, not_false_eq_true, true_or, true_and, false_or, or_true]
theorem m213_44 (d : Nat) (a0 a1 s0 s1 : Int) (x2 : zV) (S : zS) : zF_213 d 44 [vr a0, vi a1, x2] [vi s1, vr s0] S = zF_213 d 52 [vr a0, vi a1, vu] [vi (if s1 = 0 then 0 else 2), vr s0] S := by
  rw [b213_44]
  by_cases h : s1 = 0
  · simp only [if_pos h, b213_51, qb, ↓reduceIte, true_and, not_true_eq_false, false_or, true_or, false_and, or_true]
  · simp only [if_neg h, b213_47, qb, ↓reduceIte, false_and, not_false_eq_true, true_or, true_and, false_or, or_true]
theorem m214_0 (d : Nat) (a0 : Int) (S : zS) : zF_214 d 0 [vi a0] [] S = zF_214 d 9 [vu] [vi (if a0 = 0 then 1 else 2)] S := by
  rw [b214_0]
  by_cases h : a0 = 0
  · simp only [if_pos h, b214_4, qb, ↓reduceIte, true_and, not_true_eq_false, false_or, true_or, false_and, or_true]
  · simp only [if_neg h, b214_8, qb, ↓reduceIte, false_and, not_false_eq_true, true_or, true_and, false_or, or_true]
theorem m215_84 (d : Nat) (a5 : Int) (x0 x1 x2 x3 x4 : zV) (S : zS) : zF_215 d 84 [x0, x1, x2, x3, x4, vi a5] [] S = zF_215 d 94 [vu, vu, vu, vu, vu, vu] [vi (qb (a5 = 0))] S := by
  rw [b215_84]
  by_cases h : a5 = 0
  · simp only [if_pos h, b215_89, qb, h, ↓reduceIte, true_and, not_true_eq_false, false_or, true_or, false_and, or_true]
  · simp only [if_neg h, b215_93, qb, h, ↓reduceIte, false_and, not_false_eq_true, true_or, true_and, false_or, or_true]
theorem m215_79 (d : Nat) (a4 a5 : Int) (x0 x1 x2 x3 : zV) (S : zS) : zF_215 d 79 [x0, x1, x2, x3, vi a4, vi a5] [] S = zF_215 d 94 [vu, vu, vu, vu, vu, vu] [vi (qb ((a4 = 0) ∧ (a5 = 0)))] S := by
  rw [b215_79]
  by_cases h : a4 = 0
  · simp only [if_pos h, m215_84, qb, h, ↓reduceIte, true_and, not_true_eq_false, false_or, true_or, false_and, or_true]
  · simp only [if_neg h, b215_93, qb, h, ↓reduceIte, false_and, not_false_eq_true, true_or, true_and, false_or, or_true]
theorem m215_74 (d : Nat) (a0 a4 a5 : Int) (x1 x2 x3 : zV) (S : zS) : zF_215 d 74 [vi a0, x1, x2, x3, vi a4, vi a5] [] S = zF_215 d 94 [vu, vu, vu, vu, vu, vu] [vi (qb ((a0 = 3) ∧ ((a4 = 0) ∧ (a5 = 0))))] S := by
  rw [b215_74]
  by_cases h : a0 = 3
  · simp only [if_pos h, m215_79, qb, h, ↓reduceIte, true_and, not_true_eq_false, false_or, true_or, false_and, or_true]
  · simp only [if_neg h, b215_93, qb, h, ↓reduceIte, false_and, not_false_eq_true, true_or, true_and, false_or, or_true]
theorem m215_69 (d : Nat) (a0 a4 a5 : Int) (x1 x2 x3 : zV) (S : zS) : zF_215 d 69 [vi a0, x1, x2, x3, vi a4, vi a5] [] S = zF_215 d 94 [vu, vu, vu, vu, vu, vu] [vi (qb ((a4 = 0) ∨ ((a0 = 3) ∧ ((a4 = 0) ∧ (a5 = 0)))))] S := by
  rw [b215_69]
  by_cases h : a4 = 0
  · simp only [if_pos h, b215_89, qb, h, ↓reduceIte, true_and, not_true_eq_false, false_or, true_or, false_and, or_true]
  · simp only [if_neg h, m215_74, qb, h, ↓reduceIte, false_and, not_false_eq_true, true_or, true_and, false_or, or_true]
theorem m215_64 (d : Nat) (a0 a4 a5 : Int) (x1 x2 x3 : zV) (S : zS) : zF_215 d 64 [vi a0, x1, x2, x3, vi a4, vi a5] [] S = zF_215 d 94 [vu, vu, vu, vu, vu, vu] [vi (if a5 = 0 then (qb ((a0 = 3) ∧ ((a4 = 0) ∧ (a5 = 0)))) else (qb ((a4 = 0) ∨ ((a0 = 3) ∧ ((a4 = 0) ∧ (a5 = 0))))))] S := by
  rw [b215_64]
  by_cases h : a5 = 0
  · simp only [if_pos h, m215_74, qb, h, ↓reduceIte, true_and, not_true_eq_false, false_or, true_or, false_and, or_true]
  · simp only [if_neg h, m215_69, qb, h, ↓reduceIte, false_and, not_false_eq_true, true_or, true_and, false_or, or_true]
theorem m215_59 (d : Nat) (a0 a4 a5 : Int) (x1 x2 x3 : zV) (S : zS) : zF_215 d 59 [vi a0, x1, x2, x3, vi a4, vi a5] [] S = zF_215 d 94 [vu, vu, vu, vu, vu, vu] [vi (if a0 = 4 then (if a5 = 0 then (qb ((a0 = 3) ∧ ((a4 = 0) ∧ (a5 = 0)))) else (qb ((a4 = 0) ∨ ((a0 = 3) ∧ ((a4 = 0) ∧ (a5 = 0)))))) else (qb ((a0 = 3) ∧ ((a4 = 0) ∧ (a5 = 0)))))] S := by
  rw [b215_59]
  by_cases h : a0 = 4
  · simp only [if_pos h, m215_64, qb, h, ↓reduceIte, true_and, not_true_eq_false, false_or, true_or, false_and, or_true]
  · simp only [if_neg h, m215_74, qb, h, ↓reduceIte, false_and, not_false_eq_true, true_or, true_and, false_or, or_true]
theorem m215_54 (d : Nat) (a0 a4 a5 : Int) (x1 x2 x3 : zV) (S : zS) : zF_215 d 54 [vi a0, x1, x2, x3, vi a4, vi a5] [] S = zF_215 d 94 [vu, vu, vu, vu, vu, vu] [vi (if a5 = 0 then 1 else (if a0 = 4 then (if a5 = 0 then (qb ((a0 = 3) ∧ ((a4 = 0) ∧ (a5 = 0)))) else (qb ((a4 = 0) ∨ ((a0 = 3) ∧ ((a4 = 0) ∧ (a5 = 0)))))) else (qb ((a0 = 3) ∧ ((a4 = 0) ∧ (a5 = 0))))))] S := by
  rw [b215_54]
  by_cases h : a5 = 0
  · simp only [if_pos h, b215_89, qb, h, ↓reduceIte, true_and, not_true_eq_false, false_or, true_or, false_and, or_true]
  · simp only [if_neg h, m215_59, qb, h, ↓reduceIte, false_and, not_false_eq_true, true_or, true_and, false_or, or_true]
theorem m215_49 (d : Nat) (a0 a4 a5 : Int) (x1 x2 x3 : zV) (S : zS) : zF_215 d 49 [vi a0, x1, x2, x3, vi a4, vi a5] [] S = zF_215 d 94 [vu, vu, vu, vu, vu, vu] [vi (if a4 = 0 then (if a0 = 4 then (if a5 = 0 then (qb ((a0 = 3) ∧ ((a4 = 0) ∧ (a5 = 0)))) else (qb ((a4 = 0) ∨ ((a0 = 3) ∧ ((a4 = 0) ∧ (a5 = 0)))))) else (qb ((a0 = 3) ∧ ((a4 = 0) ∧ (a5 = 0))))) else (if a5 = 0 then 1 else (if a0 = 4 then (if a5 = 0 then (qb ((a0 = 3) ∧ ((a4 = 0) ∧ (a5 = 0)))) else (qb ((a4 = 0) ∨ ((a0 = 3) ∧ ((a4 = 0) ∧ (a5 = 0)))))) else (qb ((a0 = 3) ∧ ((a4 = 0) ∧ (a5 = 0)))))))] S := by
  rw [b215_49]
  by_cases h : a4 = 0
  · simp only [if_pos h, m215_59, qb, h, ↓reduceIte, true_and, not_true_eq_false, false_or, true_or, false_and, or_true]
  · simp only [if_neg h, m215_54, qb, h, ↓reduceIte, false_and, not_false_eq_true, true_or, true_and, false_or, or_true]
theorem m215_44 (d : Nat) (a0 a4 a5 : Int) (x1 x2 x3 : zV) (S : zS) : zF_215 d 44 [vi a0, x1, x2, x3, vi a4, vi a5] [] S = zF_215 d 94 [vu, vu, vu, vu, vu, vu] [vi (if a0 = 2 then (if a4 = 0 then (if a0 = 4 then (if a5 = 0 then (qb ((a0 = 3) ∧ ((a4 = 0) ∧ (a5 = 0)))) else (qb ((a4 = 0) ∨ ((a0 = 3) ∧ ((a4 = 0) ∧ (a5 = 0)))))) else (qb ((a0 = 3) ∧ ((a4 = 0) ∧ (a5 = 0))))) else (if a5 = 0 then 1 else (if a0 = 4 then (if a5 = 0 then (qb ((a0 = 3) ∧ ((a4 = 0) ∧ (a5 = 0)))) else (qb ((a4 = 0) ∨ ((a0 = 3) ∧ ((a4 = 0) ∧ (a5 = 0)))))) else (qb ((a0 = 3) ∧ ((a4 = 0) ∧ (a5 = 0))))))) else (if a0 = 4 then (if a5 = 0 then (qb ((a0 = 3) ∧ ((a4 = 0) ∧ (a5 = 0)))) else (qb ((a4 = 0) ∨ ((a0 = 3) ∧ ((a4 = 0) ∧ (a5 = 0)))))) else (qb ((a0 = 3) ∧ ((a4 = 0) ∧ (a5 = 0))))))] S := by
  rw [b215_44]
  by_cases h : a0 = 2
  · simp only [if_pos h, m215_49, qb, h, ↓reduceIte, true_and, not_true_eq_false, false_or, true_or, false_and, or_true]
  · simp only [if_neg h, m215_59, qb, h, ↓reduceIte, false_and, not_false_eq_true, true_or, true_and, false_or, or_true]
theorem m215_39 (d : Nat) (a0 a4 a5 : Int) (x1 x2 x3 : zV) (S : zS) : zF_215 d 39 [vi a0, x1, x2, x3, vi a4, vi a5] [] S = zF_215 d 94 [vu, vu, vu, vu, vu, vu] [vi (if a5 = 0 then (if a0 = 2 then (if a4 = 0 then (if a0 = 4 then (if a5 = 0 then (qb ((a0 = 3) ∧ ((a4 = 0) ∧ (a5 = 0)))) else (qb ((a4 = 0) ∨ ((a0 = 3) ∧ ((a4 = 0) ∧ (a5 = 0)))))) else (qb ((a0 = 3) ∧ ((a4 = 0) ∧ (a5 = 0))))) else (if a5 = 0 then 1 else (if a0 = 4 then (if a5 = 0 then (qb ((a0 = 3) ∧ ((a4 = 0) ∧ (a5 = 0)))) else (qb ((a4 = 0) ∨ ((a0 = 3) ∧ ((a4 = 0) ∧ (a5 = 0)))))) else (qb ((a0 = 3) ∧ ((a4 = 0) ∧ (a5 = 0))))))) else (if a0 = 4 then (if a5 = 0 then (qb ((a0 = 3) ∧ ((a4 = 0) ∧ (a5 = 0)))) else (qb ((a4 = 0) ∨ ((a0 = 3) ∧ ((a4 = 0) ∧ (a5 = 0)))))) else (qb ((a0 = 3) ∧ ((a4 = 0) ∧ (a5 = 0)))))) else 1)] S := by
  rw [b215_39]
  by_cases h : a5 = 0
  · simp only [if_pos h, m215_44, qb, h, ↓reduceIte, true_and, not_true_eq_false, false_or, true_or, false_and, or_true]
  · simp only [if_neg h, b215_89, qb, h, ↓reduceIte, false_and, not_false_eq_true, true_or, true_and, false_or, or_true]
theorem m215_34 (d : Nat) (a0 a4 a5 : Int) (x1 x2 x3 : zV) (S : zS) : zF_215 d 34 [vi a0, x1, x2, x3, vi a4, vi a5] [] S = zF_215 d 94 [vu, vu, vu, vu, vu, vu] [vi (if a4 = 0 then (if a0 = 2 then (if a4 = 0 then (if a0 = 4 then (if a5 = 0 then (qb ((a0 = 3) ∧ ((a4 = 0) ∧ (a5 = 0)))) else (qb ((a4 = 0) ∨ ((a0 = 3) ∧ ((a4 = 0) ∧ (a5 = 0)))))) else (qb ((a0 = 3) ∧ ((a4 = 0) ∧ (a5 = 0))))) else (if a5 = 0 then 1 else (if a0 = 4 then (if a5 = 0 then (qb ((a0 = 3) ∧ ((a4 = 0) ∧ (a5 = 0)))) else (qb ((a4 = 0) ∨ ((a0 = 3) ∧ ((a4 = 0) ∧ (a5 = 0)))))) else (qb ((a0 = 3) ∧ ((a4 = 0) ∧ (a5 = 0))))))) else (if a0 = 4 then (if a5 = 0 then (qb ((a0 = 3) ∧ ((a4 = 0) ∧ (a5 = 0)))) else (qb ((a4 = 0) ∨ ((a0 = 3) ∧ ((a4 = 0) ∧ (a5 = 0)))))) else (qb ((a0 = 3) ∧ ((a4 = 0) ∧ (a5 = 0)))))) else (if a5 = 0 then (if a0 = 2 then (if a4 = 0 then (if a0 = 4 then (if a5 = 0 then (qb ((a0 = 3) ∧ ((a4 = 0) ∧ (a5 = 0)))) else (qb ((a4 = 0) ∨ ((a0 = 3) ∧ ((a4 = 0) ∧ (a5 = 0)))))) else (qb ((a0 = 3) ∧ ((a4 = 0) ∧ (a5 = 0))))) else (if a5 = 0 then 1 else (if a0 = 4 then (if a5 = 0 then (qb ((a0 = 3) ∧ ((a4 = 0) ∧ (a5 = 0)))) else (qb ((a4 = 0) ∨ ((a0 = 3) ∧ ((a4 = 0) ∧ (a5 = 0)))))) else (qb ((a0 = 3) ∧ ((a4 = 0) ∧ (a5 = 0))))))) else (if a0 = 4 then (if a5 = 0 then (qb ((a0 = 3) ∧ ((a4 = 0) ∧ (a5 = 0)))) else (qb ((a4 = 0) ∨ ((a0 = 3) ∧ ((a4 = 0) ∧ (a5 = 0)))))) else (qb ((a0 = 3) ∧ ((a4 = 0) ∧ (a5 = 0)))))) else 1))] S := by
  rw [b215_34]
  by_cases h : a4 = 0
  · simp only [if_pos h, m215_44, qb, h, ↓reduceIte, true_and, not_true_eq_false, false_or, true_or, false_and, or_true]
  · simp only [if_neg h, m215_39, qb, h, ↓reduceIte, false_and, not_false_eq_true, true_or, true_and, false_or, or_true]
theorem m215_29 (d : Nat) (a0 a4 a5 : Int) (x1 x2 x3 : zV) (S : zS) : zF_215 d 29 [vi a0, x1, x2, x3, vi a4, vi a5] [] S = zF_215 d 94 [vu, vu, vu, vu, vu, vu] [vi (if a0 = 1 then (if a4 = 0 then (if a0 = 2 then (if a4 = 0 then (if a0 = 4 then (if a5 = 0 then (qb ((a0 = 3) ∧ ((a4 = 0) ∧ (a5 = 0)))) else (qb ((a4 = 0) ∨ ((a0 = 3) ∧ ((a4 = 0) ∧ (a5 = 0)))))) else (qb ((a0 = 3) ∧ ((a4 = 0) ∧ (a5 = 0))))) else (if a5 = 0 then 1 else (if a0 = 4 then (if a5 = 0 then (qb ((a0 = 3) ∧ ((a4 = 0) ∧ (a5 = 0)))) else (qb ((a4 = 0) ∨ ((a0 = 3) ∧ ((a4 = 0) ∧ (a5 = 0)))))) else (qb ((a0 = 3) ∧ ((a4 = 0) ∧ (a5 = 0))))))) else (if a0 = 4 then (if a5 = 0 then (qb ((a0 = 3) ∧ ((a4 = 0) ∧ (a5 = 0)))) else (qb ((a4 = 0) ∨ ((a0 = 3) ∧ ((a4 = 0) ∧ (a5 = 0)))))) else (qb ((a0 = 3) ∧ ((a4 = 0) ∧ (a5 = 0)))))) else (if a5 = 0 then (if a0 = 2 then (if a4 = 0 then (if a0 = 4 then (if a5 = 0 then (qb ((a0 = 3) ∧ ((a4 = 0) ∧ (a5 = 0)))) else (qb ((a4 = 0) ∨ ((a0 = 3) ∧ ((a4 = 0) ∧ (a5 = 0)))))) else (qb ((a0 = 3) ∧ ((a4 = 0) ∧ (a5 = 0))))) else (if a5 = 0 then 1 else (if a0 = 4 then (if a5 = 0 then (qb ((a0 = 3) ∧ ((a4 = 0) ∧ (a5 = 0)))) else (qb ((a4 = 0) ∨ ((a0 = 3) ∧ ((a4 = 0) ∧ (a5 = 0)))))) else (qb ((a0 = 3) ∧ ((a4 = 0) ∧ (a5 = 0))))))) else (if a0 = 4 then (if a5 = 0 then (qb ((a0 = 3) ∧ ((a4 = 0) ∧ (a5 = 0)))) else (qb ((a4 = 0) ∨ ((a0 = 3) ∧ ((a4 = 0) ∧ (a5 = 0)))))) else (qb ((a0 = 3) ∧ ((a4 = 0) ∧ (a5 = 0)))))) else 1)) else (if a0 = 2 then (if a4 = 0 then (if a0 = 4 then (if a5 = 0 then (qb ((a0 = 3) ∧ ((a4 = 0) ∧ (a5 = 0)))) else (qb ((a4 = 0) ∨ ((a0 = 3) ∧ ((a4 = 0) ∧ (a5 = 0)))))) else (qb ((a0 = 3) ∧ ((a4 = 0) ∧ (a5 = 0))))) else (if a5 = 0 then 1 else (if a0 = 4 then (if a5 = 0 then (qb ((a0 = 3) ∧ ((a4 = 0) ∧ (a5 = 0)))) else (qb ((a4 = 0) ∨ ((a0 = 3) ∧ ((a4 = 0) ∧ (a5 = 0)))))) else (qb ((a0 = 3) ∧ ((a4 = 0) ∧ (a5 = 0))))))) else (if a0 = 4 then (if a5 = 0 then (qb ((a0 = 3) ∧ ((a4 = 0) ∧ (a5 = 0)))) else (qb ((a4 = 0) ∨ ((a0 = 3) ∧ ((a4 = 0) ∧ (a5 = 0)))))) else (qb ((a0 = 3) ∧ ((a4 = 0) ∧ (a5 = 0)))))))] S := by
  rw [b215_29]
  by_cases h : a0 = 1
  · simp only [if_pos h, m215_34, qb, h, ↓reduceIte, true_and, not_true_eq_false, false_or, true_or, false_and, or_true]
  · simp only [if_neg h, m215_44, qb, h, ↓reduceIte, false_and, not_false_eq_true, true_or, true_and, false_or, or_true]
theorem m215_23 (d : Nat) (a0 a4 s0 : Int) (x1 x2 x3 x5 : zV) (S : zS) : zF_215 d 23 [vi a0, x1, x2, x3, vi a4, x5] [vi s0] S = zF_215 d 94 [vu, vu, vu, vu, vu, vu] [vi (if a0 = 0 then 1 else (if a0 = 1 then (if a4 = 0 then (if a0 = 2 then (if a4 = 0 then (if a0 = 4 then (if s0 = 0 then (qb ((a0 = 3) ∧ ((a4 = 0) ∧ (s0 = 0)))) else (qb ((a4 = 0) ∨ ((a0 = 3) ∧ ((a4 = 0) ∧ (s0 = 0)))))) else (qb ((a0 = 3) ∧ ((a4 = 0) ∧ (s0 = 0))))) else (if s0 = 0 then 1 else (if a0 = 4 then (if s0 = 0 then (qb ((a0 = 3) ∧ ((a4 = 0) ∧ (s0 = 0)))) else (qb ((a4 = 0) ∨ ((a0 = 3) ∧ ((a4 = 0) ∧ (s0 = 0)))))) else (qb ((a0 = 3) ∧ ((a4 = 0) ∧ (s0 = 0))))))) else (if a0 = 4 then (if s0 = 0 then (qb ((a0 = 3) ∧ ((a4 = 0) ∧ (s0 = 0)))) else (qb ((a4 = 0) ∨ ((a0 = 3) ∧ ((a4 = 0) ∧ (s0 = 0)))))) else (qb ((a0 = 3) ∧ ((a4 = 0) ∧ (s0 = 0)))))) else (if s0 = 0 then (if a0 = 2 then (if a4 = 0 then (if a0 = 4 then (if s0 = 0 then (qb ((a0 = 3) ∧ ((a4 = 0) ∧ (s0 = 0)))) else (qb ((a4 = 0) ∨ ((a0 = 3) ∧ ((a4 = 0) ∧ (s0 = 0)))))) else (qb ((a0 = 3) ∧ ((a4 = 0) ∧ (s0 = 0))))) else (if s0 = 0 then 1 else (if a0 = 4 then (if s0 = 0 then (qb ((a0 = 3) ∧ ((a4 = 0) ∧ (s0 = 0)))) else (qb ((a4 = 0) ∨ ((a0 = 3) ∧ ((a4 = 0) ∧ (s0 = 0)))))) else (qb ((a0 = 3) ∧ ((a4 = 0) ∧ (s0 = 0))))))) else (if a0 = 4 then (if s0 = 0 then (qb ((a0 = 3) ∧ ((a4 = 0) ∧ (s0 = 0)))) else (qb ((a4 = 0) ∨ ((a0 = 3) ∧ ((a4 = 0) ∧ (s0 = 0)))))) else (qb ((a0 = 3) ∧ ((a4 = 0) ∧ (s0 = 0)))))) else 1)) else (if a0 = 2 then (if a4 = 0 then (if a0 = 4 then (if s0 = 0 then (qb ((a0 = 3) ∧ ((a4 = 0) ∧ (s0 = 0)))) else (qb ((a4 = 0) ∨ ((a0 = 3) ∧ ((a4 = 0) ∧ (s0 = 0)))))) else (qb ((a0 = 3) ∧ ((a4 = 0) ∧ (s0 = 0))))) else (if s0 = 0 then 1 else (if a0 = 4 then (if s0 = 0 then (qb ((a0 = 3) ∧ ((a4 = 0) ∧ (s0 = 0)))) else (qb ((a4 = 0) ∨ ((a0 = 3) ∧ ((a4 = 0) ∧ (s0 = 0)))))) else (qb ((a0 = 3) ∧ ((a4 = 0) ∧ (s0 = 0))))))) else (if a0 = 4 then (if s0 = 0 then (qb ((a0 = 3) ∧ ((a4 = 0) ∧ (s0 = 0)))) else (qb ((a4 = 0) ∨ ((a0 = 3) ∧ ((a4 = 0) ∧ (s0 = 0)))))) else (qb ((a0 = 3) ∧ ((a4 = 0) ∧ (s0 = 0))))))))] S := by
  rw [b215_23]
  by_cases h : a0 = 0
  · simp only [if_pos h, b215_89, qb, h, ↓reduceIte, true_and, not_true_eq_false, false_or, true_or, false_and, or_true]
  · simp only [if_neg h, m215_29, qb, h, ↓reduceIte, false_and, not_false_eq_true, true_or, true_and, false_or, or_true]
theorem m215_9 (d : Nat) (a0 a1 a2 a3 s0 : Int) (x4 x5 : zV) (S : zS) : zF_215 d 9 [vi a0, vi a1, vi a2, vi a3, x4, x5] [vi s0] S = zF_215 d 23 [vi a0, vu, vu, vu, vi s0, vu] [vi (qb (z32 (a1 + a2) = a3))] S := by
  rw [b215_9]
  by_cases h : z32 (a1 + a2) = a3
  · simp only [if_pos h, b215_18, qb, h, ↓reduceIte, true_and, not_true_eq_false, false_or, true_or, false_and, or_true]
  · simp only [if_neg h, b215_22, qb, h, ↓reduceIte, false_and, not_false_eq_true, true_or, true_and, false_or, or_true]
theorem m215_0 (d : Nat) (a0 a1 a2 a3 : Int) (S : zS) : zF_215 d 0 [vi a0, vi a1, vi a2, vi a3, vu, vu] [] S = zF_215 d 9 [vi a0, vi a1, vi a2, vi a3, vu, vu] [vi (qb (a1 = 0))] S := by
  rw [b215_0]
  by_cases h : a1 = 0
  · simp only [if_pos h, b215_4, qb, h, ↓reduceIte, true_and, not_true_eq_false, false_or, true_or, false_and, or_true]
  · simp only [if_neg h, b215_8, qb, h, ↓reduceIte, false_and, not_false_eq_true, true_or, true_and, false_or, or_true]
theorem m216_116 (d : Nat) (a0 a1 a3 a4 a6 s0 : Int) (S : zS) : zF_216 d 116 [vr a0, vi a1, vu, vi a3, vi a4, vu, vi a6] [vi s0] S = zF_216 d 124 [vr a0, vi a1, vu, vi a3, vi a4, vu, vi a6] [vi (qb (s0 = 0))] S := by
  rw [b216_116]
  by_cases h : s0 = 0
  · simp only [if_pos h, b216_119, qb, h, ↓reduceIte, true_and, not_true_eq_false, false_or, true_or, false_and, or_true]
  · simp only [if_neg h, b216_123, qb, h, ↓reduceIte, false_and, not_false_eq_true, true_or, true_and, false_or, or_true]
theorem m216_45 (d : Nat) (a0 a1 a3 a4 s0 : Int) (x2 x5 x6 : zV) (S : zS) : zF_216 d 45 [vr a0, vi a1, x2, vi a3, vi a4, x5, x6] [vi s0] S = zF_216 d 53 [vr a0, vi a1, vu, vi a3, vi a4, vu, vu] [vi (qb (¬(s0 = 0)))] S := by
  rw [b216_45]
  by_cases h : s0 = 0
  · simp only [if_pos h, b216_52, qb, h, ↓reduceIte, true_and, not_true_eq_false, false_or, true_or, false_and, or_true]
  · simp only [if_neg h, b216_48, qb, h, ↓reduceIte, false_and, not_false_eq_true, true_or, true_and, false_or, or_true]
theorem m217_94 (d : Nat) (a0 a1 a3 s0 s1 : Int) (S : zS) : zF_217 d 94 [vr a0, vi a1, vu, vi a3, vu, vu, vu] [vi s1, vi s0] S = zF_217 d 102 [vu, vu, vu, vu, vu, vu, vu] [vi (qb (s0 = s1))] S := by
  rw [b217_94]
  by_cases h : s0 = s1
  · simp only [if_pos h, b217_97, qb, h, ↓reduceIte, true_and, not_true_eq_false, false_or, true_or, false_and, or_true]
  · simp only [if_neg h, b217_101, qb, h, ↓reduceIte, false_and, not_false_eq_true, true_or, true_and, false_or, or_true]
theorem m217_44 (d : Nat) (a0 a1 a3 a5 s0 : Int) (x2 x4 x6 : zV) (S : zS) : zF_217 d 44 [vr a0, vi a1, x2, vi a3, x4, vi a5, x6] [vi s0] S = zF_217 d 52 [vr a0, vi a1, vu, vi a3, vu, vi a5, vu] [vi (qb (¬(s0 = 0)))] S := by
  rw [b217_44]
  by_cases h : s0 = 0
  · simp only [if_pos h, b217_51, qb, h, ↓reduceIte, true_and, not_true_eq_false, false_or, true_or, false_and, or_true]
  · simp only [if_neg h, b217_47, qb, h, ↓reduceIte, false_and, not_false_eq_true, true_or, true_and, false_or, or_true]
theorem m223_28 (d : Nat) (a0 a3 : Int) (x1 x2 : zV) (S : zS) : zF_223 d 28 [vr a0, x1, x2, vi a3] [] S = zchk ((zk S a0).1 = 33) (zchk (((zk S (zm S a0 48)).1 = 2 ∨ (zk S (zm S a0 48)).1 = 2) ∧ 0 ≤ a3 ∧ a3 < (zk S (zm S a0 48)).2) (zchk ((zk S a0).1 = 33) (zchk (((zk S (zm S a0 35)).1 = 2 ∨ (zk S (zm S a0 35)).1 = 2) ∧ 0 ≤ a3 ∧ a3 < (zk S (zm S a0 35)).2) (zF_223 d 48 [vr a0, vu, vu, vi a3] [vi (qb (zm S (zm S a0 48) a3 = zm S (zm S a0 35) a3))] S)))) := by
  rw [b223_28]
  by_cases h : zm S (zm S a0 48) a3 = zm S (zm S a0 35) a3
  · simp only [if_pos h, b223_43, qb, h, ↓reduceIte, true_and, not_true_eq_false, false_or, true_or, false_and, or_true]
  · simp only [if_neg h, b223_47, qb, h, ↓reduceIte, false_and, not_false_eq_true, true_or, true_and, false_or, or_true]
theorem m223_0 (d : Nat) (a0 a1 : Int) (S : zS) : zF_223 d 0 [vr a0, vi a1, vu, vu] [] S = zchk ((zk S a0).1 = 33) (zF_223 d 13 [vr a0, vu, vu, vu] [vi (qb (a1 = zm S a0 36))] S) := by
  rw [b223_0]
  by_cases h : a1 = zm S a0 36
  · simp only [if_pos h, b223_8, qb, h, ↓reduceIte, true_and, not_true_eq_false, false_or, true_or, false_and, or_true]
  · simp only [if_neg h, b223_12, qb, h, ↓reduceIte, false_and, not_false_eq_true, true_or, true_and, false_or, or_true]
theorem m225_136 (d : Nat) (a0 : Int) (x1 x2 x3 : zV) (S : zS) : zF_225 d 136 [vr a0, x1, x2, x3] [] S = zchk ((zk S a0).1 = 33) (zF_225 d 151 [vr a0, vu, vu, vu] [vi (if zm S a0 33 = 0 then 48 else 60), vr a0] S) := by
  rw [b225_136]
  by_cases h : zm S a0 33 = 0
  · simp only [if_pos h, b225_149, qb, ↓reduceIte, true_and, not_true_eq_false, false_or, true_or, false_and, or_true]
  · simp only [if_neg h, b225_144, qb, ↓reduceIte, false_and, not_false_eq_true, true_or, true_and, false_or, or_true]
theorem m225_76 (d : Nat) (a0 s0 s1 : Int) (x1 x2 x3 : zV) (S : zS) : zF_225 d 76 [vr a0, x1, x2, x3] [vi s1, vr s0] S = zF_225 d 84 [vr a0, vu, vu, vu] [vi (qb (s1 = 0)), vr s0] S := by
  rw [b225_76]
  by_cases h : s1 = 0
  · simp only [if_pos h, b225_79, qb, h, ↓reduceIte, true_and, not_true_eq_false, false_or, true_or, false_and, or_true]
  · simp only [if_neg h, b225_83, qb, h, ↓reduceIte, false_and, not_false_eq_true, true_or, true_and, false_or, or_true]
theorem m227_50 (d : Nat) (a0 : Int) (x1 x2 x3 x4 : zV) (S : zS) : zF_227 d 50 [vr a0, x1, x2, x3, x4] [] S = zchk ((zk S a0).1 = 33) (zF_227 d 62 [vu, vu, vu, vu, vu] [vi (if zm S a0 33 = 0 then 0 else 3)] S) := by
  rw [b227_50]
  by_cases h : zm S a0 33 = 0
  · simp only [if_pos h, b227_61, qb, ↓reduceIte, true_and, not_true_eq_false, false_or, true_or, false_and, or_true]
  · simp only [if_neg h, b227_57, qb, ↓reduceIte, false_and, not_false_eq_true, true_or, true_and, false_or, or_true]
theorem m227_20 (d : Nat) (s0 : Int) (x0 x1 x2 x3 x4 : zV) (S : zS) : zF_227 d 20 [x0, x1, x2, x3, x4] [vi s0] S = zF_227 d 28 [vu, vu, vu, vu, vu] [vi (if s0 = 0 then 1 else 2)] S := by
  rw [b227_20]
  by_cases h : s0 = 0
  · simp only [if_pos h, b227_27, qb, ↓reduceIte, true_and, not_true_eq_false, false_or, true_or, false_and, or_true]
  · simp only [if_neg h, b227_23, qb, ↓reduceIte, false_and, not_false_eq_true, true_or, true_and, false_or, or_true]
theorem m234_24 (d : Nat) (a0 : Int) (S : zS) : zF_234 d 24 [vi a0] [] S = zF_234 d 35 [vu] [vi (qb (a0 = 94))] S := by
  rw [b234_24]
  by_cases h : a0 = 94
  · simp only [if_pos h, b234_30, qb, h, ↓reduceIte, true_and, not_true_eq_false, false_or, true_or, false_and, or_true]
  · simp only [if_neg h, b234_34, qb, h, ↓reduceIte, false_and, not_false_eq_true, true_or, true_and, false_or, or_true]
theorem m234_18 (d : Nat) (a0 : Int) (S : zS) : zF_234 d 18 [vi a0] [] S = zF_234 d 35 [vu] [vi (qb ((a0 = 47) ∨ (a0 = 94)))] S := by
  rw [b234_18]
  by_cases h : a0 = 47
  · simp only [if_pos h, b234_30, qb, h, ↓reduceIte, true_and, not_true_eq_false, false_or, true_or, false_and, or_true]
  · simp only [if_neg h, m234_24, qb, h, ↓reduceIte, false_and, not_false_eq_true, true_or, true_and, false_or, or_true]
theorem m234_12 (d : Nat) (a0 : Int) (S : zS) : zF_234 d 12 [vi a0] [] S = zF_234 d 35 [vu] [vi (qb ((a0 = 46) ∨ ((a0 = 47) ∨ (a0 = 94))))] S := by
  rw [b234_12]
  by_cases h : a0 = 46
  · simp only [if_pos h, b234_30, qb, h, ↓reduceIte, true_and, not_true_eq_false, false_or, true_or, false_and, or_true]
  · simp only [if_neg h, m234_18, qb, h, ↓reduceIte, false_and, not_false_eq_true, true_or, true_and, false_or, or_true]
theorem m234_6 (d : Nat) (a0 : Int) (S : zS) : zF_234 d 6 [vi a0] [] S = zF_234 d 35 [vu] [vi (qb ((a0 = 45) ∨ ((a0 = 46) ∨ ((a0 = 47) ∨ (a0 = 94)))))] S := by
  rw [b234_6]
  by_cases h : a0 = 45
  · simp only [if_pos h, b234_30, qb, h, ↓reduceIte, true_and, not_true_eq_false, false_or, true_or, false_and, or_true]
  · simp only [if_neg h, m234_12, qb, h, ↓reduceIte, false_and, not_false_eq_true, true_or, true_and, false_or, or_true]
theorem m234_0 (d : Nat) (a0 : Int) (S : zS) : zF_234 d 0 [vi a0] [] S = zF_234 d 35 [vu] [vi (qb ((a0 = 43) ∨ ((a0 = 45) ∨ ((a0 = 46) ∨ ((a0 = 47) ∨ (a0 = 94))))))] S := by
  rw [b234_0]
  by_cases h : a0 = 43
  · simp only [if_pos h, b234_30, qb, h, ↓reduceIte, true_and, not_true_eq_false, false_or, true_or, false_and, or_true]
  · simp only [if_neg h, m234_6, qb, h, ↓reduceIte, false_and, not_false_eq_true, true_or, true_and, false_or, or_true]
theorem m235_32 (d : Nat) (a0 : Int) (S : zS) : zF_235 d 32 [vi a0] [] S = zF_235 d 43 [vu] [vi (if a0 = 94 then 3 else 0)] S := by
  rw [b235_32]
  by_cases h : a0 = 94
  · simp only [if_pos h, b235_38, qb, ↓reduceIte, true_and, not_true_eq_false, false_or, true_or, false_and, or_true]
  · simp only [if_neg h, b235_42, qb, ↓reduceIte, false_and, not_false_eq_true, true_or, true_and, false_or, or_true]
theorem m235_22 (d : Nat) (a0 : Int) (S : zS) : zF_235 d 22 [vi a0] [] S = zF_235 d 43 [vu] [vi (if a0 = 47 then 2 else (if a0 = 94 then 3 else 0))] S := by
  rw [b235_22]
  by_cases h : a0 = 47
  · simp only [if_pos h, b235_28, qb, ↓reduceIte, true_and, not_true_eq_false, false_or, true_or, false_and, or_true]
  · simp only [if_neg h, m235_32, qb, ↓reduceIte, false_and, not_false_eq_true, true_or, true_and, false_or, or_true]
theorem m235_16 (d : Nat) (a0 : Int) (S : zS) : zF_235 d 16 [vi a0] [] S = zF_235 d 43 [vu] [vi (if a0 = 46 then 2 else (if a0 = 47 then 2 else (if a0 = 94 then 3 else 0)))] S := by
  rw [b235_16]
  by_cases h : a0 = 46
  · simp only [if_pos h, b235_28, qb, ↓reduceIte, true_and, not_true_eq_false, false_or, true_or, false_and, or_true]
  · simp only [if_neg h, m235_22, qb, ↓reduceIte, false_and, not_false_eq_true, true_or, true_and, false_or, or_true]
theorem m235_6 (d : Nat) (a0 : Int) (S : zS) : zF_235 d 6 [vi a0] [] S = zF_235 d 43 [vu] [vi (if a0 = 45 then 1 else (if a0 = 46 then 2 else (if a0 = 47 then 2 else (if a0 = 94 then 3 else 0))))] S := by
  rw [b235_6]
  by_cases h : a0 = 45
  · simp only [if_pos h, b235_12, qb, ↓reduceIte, true_and, not_true_eq_false, false_or, true_or, false_and, or_true]
  · simp only [if_neg h, m235_16, qb, ↓reduceIte, false_and, not_false_eq_true, true_or, true_and, false_or, or_true]
theorem m235_0 (d : Nat) (a0 : Int) (S : zS) : zF_235 d 0 [vi a0] [] S = zF_235 d 43 [vu] [vi (if a0 = 43 then 1 else (if a0 = 45 then 1 else (if a0 = 46 then 2 else (if a0 = 47 then 2 else (if a0 = 94 then 3 else 0)))))] S := by
  rw [b235_0]
  by_cases h : a0 = 43
  · simp only [if_pos h, b235_12, qb, ↓reduceIte, true_and, not_true_eq_false, false_or, true_or, false_and, or_true]
  · simp only [if_neg h, m235_6, qb, ↓reduceIte, false_and, not_false_eq_true, true_or, true_and, false_or, or_true]
theorem m242_108 (d : Nat) (a2 : Int) (x0 x1 x3 x4 x5 x6 : zV) (S : zS) : zF_242 d 108 [x0, x1, vi a2, x3, x4, x5, x6] [] S = zF_242 d 117 [vu, vu, vu, vu, vu, vu, vu] [vi (qb (¬(a2 = 0)))] S := by
  rw [b242_108]
  by_cases h : a2 = 0
  · simp only [if_pos h, b242_116, qb, h, ↓reduceIte, true_and, not_true_eq_false, false_or, true_or, false_and, or_true]
  · simp only [if_neg h, b242_112, qb, h, ↓reduceIte, false_and, not_false_eq_true, true_or, true_and, false_or, or_true]
theorem m245_44 (d : Nat) (a1 : Int) (x0 : zV) (S : zS) : zF_245 d 44 [x0, vi a1] [] S = zF_245 d 55 [vu, vu] [vi (if a1 = 0 then 34 else 24)] S := by
  rw [b245_44]
  by_cases h : a1 = 0
  · simp only [if_pos h, b245_48, qb, ↓reduceIte, true_and, not_true_eq_false, false_or, true_or, false_and, or_true]
  · simp only [if_neg h, b245_53, qb, ↓reduceIte, false_and, not_false_eq_true, true_or, true_and, false_or, or_true]
theorem m245_33 (d : Nat) (a0 a1 : Int) (S : zS) : zF_245 d 33 [vi a0, vi a1] [] S = zF_245 d 55 [vu, vu] [vi (if a0 = 47 then 12 else (if a1 = 0 then 34 else 24))] S := by
  rw [b245_33]
  by_cases h : a0 = 47
  · simp only [if_pos h, b245_39, qb, ↓reduceIte, true_and, not_true_eq_false, false_or, true_or, false_and, or_true]
  · simp only [if_neg h, m245_44, qb, ↓reduceIte, false_and, not_false_eq_true, true_or, true_and, false_or, or_true]
theorem m245_22 (d : Nat) (a0 a1 : Int) (S : zS) : zF_245 d 22 [vi a0, vi a1] [] S = zF_245 d 55 [vu, vu] [vi (if a0 = 46 then 20 else (if a0 = 47 then 12 else (if a1 = 0 then 34 else 24)))] S := by
  rw [b245_22]
  by_cases h : a0 = 46
  · simp only [if_pos h, b245_28, qb, ↓reduceIte, true_and, not_true_eq_false, false_or, true_or, false_and, or_true]
  · simp only [if_neg h, m245_33, qb, ↓reduceIte, false_and, not_false_eq_true, true_or, true_and, false_or, or_true]
theorem m245_11 (d : Nat) (a0 a1 : Int) (S : zS) : zF_245 d 11 [vi a0, vi a1] [] S = zF_245 d 55 [vu, vu] [vi (if a0 = 45 then 36 else (if a0 = 46 then 20 else (if a0 = 47 then 12 else (if a1 = 0 then 34 else 24))))] S := by
  rw [b245_11]
  by_cases h : a0 = 45
  · simp only [if_pos h, b245_17, qb, ↓reduceIte, true_and, not_true_eq_false, false_or, true_or, false_and, or_true]
  · simp only [if_neg h, m245_22, qb, ↓reduceIte, false_and, not_false_eq_true, true_or, true_and, false_or, or_true]
theorem m245_0 (d : Nat) (a0 a1 : Int) (S : zS) : zF_245 d 0 [vi a0, vi a1] [] S = zF_245 d 55 [vu, vu] [vi (if a0 = 43 then 22 else (if a0 = 45 then 36 else (if a0 = 46 then 20 else (if a0 = 47 then 12 else (if a1 = 0 then 34 else 24)))))] S := by
  rw [b245_0]
  by_cases h : a0 = 43
  · simp only [if_pos h, b245_6, qb, ↓reduceIte, true_and, not_true_eq_false, false_or, true_or, false_and, or_true]
  · simp only [if_neg h, m245_11, qb, ↓reduceIte, false_and, not_false_eq_true, true_or, true_and, false_or, or_true]
theorem m247_122 (d : Nat) (a0 a1 a2 a3 a4 : Int) (S : zS) : zF_247 d 122 [vr a0, vi a1, vi a2, vi a3, vi a4] [] S = zF_247 d 137 [vr a0, vi a1, vi a2, vi a3, vi a4] [vi (if a3 = 47 then 62 else 16), vi (-1), vr a0] S := by
  rw [b247_122]
  by_cases h : a3 = 47
  · simp only [if_pos h, b247_130, qb, ↓reduceIte, true_and, not_true_eq_false, false_or, true_or, false_and, or_true]
  · simp only [if_neg h, b247_135, qb, ↓reduceIte, false_and, not_false_eq_true, true_or, true_and, false_or, or_true]
theorem m247_104 (d : Nat) (a0 a1 a2 a3 : Int) (x4 : zV) (S : zS) : zF_247 d 104 [vr a0, vi a1, vi a2, vi a3, x4] [] S = zF_247 d 115 [vr a0, vi a1, vi a2, vi a3, vu] [vi (qb (a3 = 94))] S := by
  rw [b247_104]
  by_cases h : a3 = 94
  · simp only [if_pos h, b247_110, qb, h, ↓reduceIte, true_and, not_true_eq_false, false_or, true_or, false_and, or_true]
  · simp only [if_neg h, b247_114, qb, h, ↓reduceIte, false_and, not_false_eq_true, true_or, true_and, false_or, or_true]
theorem m247_98 (d : Nat) (a0 a1 a2 a3 : Int) (x4 : zV) (S : zS) : zF_247 d 98 [vr a0, vi a1, vi a2, vi a3, x4] [] S = zF_247 d 115 [vr a0, vi a1, vi a2, vi a3, vu] [vi (qb ((a3 = 47) ∨ (a3 = 94)))] S := by
  rw [b247_98]
  by_cases h : a3 = 47
  · simp only [if_pos h, b247_110, qb, h, ↓reduceIte, true_and, not_true_eq_false, false_or, true_or, false_and, or_true]
  · simp only [if_neg h, m247_104, qb, h, ↓reduceIte, false_and, not_false_eq_true, true_or, true_and, false_or, or_true]
theorem m247_93 (d : Nat) (a0 a1 a2 a3 : Int) (x4 : zV) (S : zS) : zF_247 d 93 [vr a0, vi a1, vi a2, vi a3, x4] [] S = zF_247 d 115 [vr a0, vi a1, vi a2, vi a3, vu] [vi (qb ((a2 = 1) ∧ ((a3 = 47) ∨ (a3 = 94))))] S := by
  rw [b247_93]
  by_cases h : a2 = 1
  · simp only [if_pos h, m247_98, qb, h, ↓reduceIte, true_and, not_true_eq_false, false_or, true_or, false_and, or_true]
  · simp only [if_neg h, b247_114, qb, h, ↓reduceIte, false_and, not_false_eq_true, true_or, true_and, false_or, or_true]
theorem m249_18 (d : Nat) (a0 a1 s0 s1 : Int) (S : zS) : zF_249 d 18 [vr a0, vi a1] [vi s1, vr s0] S = zF_249 d 27 [vr a0, vi a1] [vi (if s1 = (-1) then 0 else 2), vr s0] S := by
  rw [b249_18]
  by_cases h : s1 = (-1)
  · simp only [if_pos h, b249_26, qb, ↓reduceIte, true_and, not_true_eq_false, false_or, true_or, false_and, or_true]
  · simp only [if_neg h, b249_22, qb, ↓reduceIte, false_and, not_false_eq_true, true_or, true_and, false_or, or_true]
theorem m250_26 (d : Nat) (a0 a1 a2 s0 s1 : Int) (S : zS) : zF_250 d 26 [vr a0, vi a1, vi a2] [vi s1, vr s0] S = zF_250 d 35 [vr a0, vi a1, vi a2] [vi (if s1 = (-1) then 0 else 3), vr s0] S := by
  rw [b250_26]
  by_cases h : s1 = (-1)
  · simp only [if_pos h, b250_34, qb, ↓reduceIte, true_and, not_true_eq_false, false_or, true_or, false_and, or_true]
  · simp only [if_neg h, b250_30, qb, ↓reduceIte, false_and, not_false_eq_true, true_or, true_and, false_or, or_true]
theorem m251_18 (d : Nat) (s0 s1 : Int) (x0 x1 : zV) (S : zS) : zF_251 d 18 [x0, x1] [vi s1, vr s0] S = zF_251 d 27 [vu, vu] [vi (if s1 = (-1) then 0 else 2), vr s0] S := by
  rw [b251_18]
  by_cases h : s1 = (-1)
  · simp only [if_pos h, b251_26, qb, ↓reduceIte, true_and, not_true_eq_false, false_or, true_or, false_and, or_true]
  · simp only [if_neg h, b251_22, qb, ↓reduceIte, false_and, not_false_eq_true, true_or, true_and, false_or, or_true]
theorem m253_58 (d : Nat) (a0 a1 a2 a3 a4 a5 s0 : Int) (x6 : zV) (S : zS) : zF_253 d 58 [vr a0, vi a1, vi a2, vi a3, vi a4, vi a5, x6] [vr s0] S = zchk ((zk S a0).1 = 33) (zF_253 d 71 [vr a0, vi a1, vi a2, vi a3, vi a4, vi a5, vu] [vi (if zm S a0 16 = 4 then 3 else 0), vr s0] S) := by
  rw [b253_58]
  by_cases h : zm S a0 16 = 4
  · simp only [if_pos h, b253_66, qb, ↓reduceIte, true_and, not_true_eq_false, false_or, true_or, false_and, or_true]
  · simp only [if_neg h, b253_70, qb, ↓reduceIte, false_and, not_false_eq_true, true_or, true_and, false_or, or_true]
theorem m253_26 (d : Nat) (a0 a1 a2 a3 a4 a5 s0 : Int) (x6 : zV) (S : zS) : zF_253 d 26 [vr a0, vi a1, vi a2, vi a3, vi a4, vi a5, x6] [vi s0] S = zF_253 d 34 [vr a0, vi a1, vi a2, vi a3, vi a4, vi a5, vu] [vi (qb (¬(s0 = 0)))] S := by
  rw [b253_26]
  by_cases h : s0 = 0
  · simp only [if_pos h, b253_33, qb, h, ↓reduceIte, true_and, not_true_eq_false, false_or, true_or, false_and, or_true]
  · simp only [if_neg h, b253_29, qb, h, ↓reduceIte, false_and, not_false_eq_true, true_or, true_and, false_or, or_true]
theorem m254_12 (d : Nat) (a0 a1 a2 a3 : Int) (S : zS) : zF_254 d 12 [vr a0, vi a1, vi a2, vi a3] [] S = zchk ((zk S a0).1 = 33) (zchk (((zk S (zm S a0 66)).1 = 0 ∨ (zk S (zm S a0 66)).1 = 40) ∧ 0 ≤ a3 ∧ a3 < (zk S (zm S a0 66)).2) (zF_254 d 28 [vr a0, vi a1, vu, vi a3] [vi (qb (zm S (zm S a0 66) a3 = a1)), vi a2] S)) := by
  rw [b254_12]
  by_cases h : zm S (zm S a0 66) a3 = a1
  · simp only [if_pos h, b254_23, qb, h, ↓reduceIte, true_and, not_true_eq_false, false_or, true_or, false_and, or_true]
  · simp only [if_neg h, b254_27, qb, h, ↓reduceIte, false_and, not_false_eq_true, true_or, true_and, false_or, or_true]
theorem m255_231 (d : Nat) (a0 a1 a2 a6 a7 s0 : Int) (x3 x4 x5 x8 x9 : zV) (S : zS) : zF_255 d 231 [vr a0, vi a1, vi a2, x3, x4, x5, vi a6, vi a7, x8, x9] [vi s0] S = zF_255 d 241 [vr a0, vi a1, vi a2, vu, vu, vu, vi a6, vi a7, vu, vu] [vi (if s0 = 124 then 2 else 0)] S := by
  rw [b255_231]
  by_cases h : s0 = 124
  · simp only [if_pos h, b255_236, qb, ↓reduceIte, true_and, not_true_eq_false, false_or, true_or, false_and, or_true]
  · simp only [if_neg h, b255_240, qb, ↓reduceIte, false_and, not_false_eq_true, true_or, true_and, false_or, or_true]
theorem m255_46 (d : Nat) (a0 a1 a2 s0 s1 : Int) (x3 x4 x5 x6 x7 x8 x9 : zV) (S : zS) : zF_255 d 46 [vr a0, vi a1, vi a2, x3, x4, x5, x6, x7, x8, x9] [vi s1, vr s0] S = zF_255 d 54 [vr a0, vi a1, vi a2, vu, vu, vu, vu, vu, vu, vu] [vi (if 0 < s1 then 3 else 0), vr s0] S := by
  rw [b255_46]
  by_cases h : 0 < s1
  · simp only [if_pos h, b255_49, qb, ↓reduceIte, true_and, not_true_eq_false, false_or, true_or, false_and, or_true]
  · simp only [if_neg h, b255_53, qb, ↓reduceIte, false_and, not_false_eq_true, true_or, true_and, false_or, or_true]
theorem m258_10 (d : Nat) (a0 : Int) (S : zS) : zF_258 d 10 [vi a0] [] S = zF_258 d 21 [vu] [vi (if a0 < 100 then 2 else 3)] S := by
  rw [b258_10]
  by_cases h : a0 < 100
  · simp only [if_pos h, b258_16, qb, ↓reduceIte, true_and, not_true_eq_false, false_or, true_or, false_and, or_true]
  · simp only [if_neg h, b258_20, qb, ↓reduceIte, false_and, not_false_eq_true, true_or, true_and, false_or, or_true]
theorem m258_0 (d : Nat) (a0 : Int) (S : zS) : zF_258 d 0 [vi a0] [] S = zF_258 d 21 [vu] [vi (if a0 < 10 then 1 else (if a0 < 100 then 2 else 3))] S := by
  rw [b258_0]
  by_cases h : a0 < 10
  · simp only [if_pos h, b258_6, qb, ↓reduceIte, true_and, not_true_eq_false, false_or, true_or, false_and, or_true]
  · simp only [if_neg h, m258_10, qb, ↓reduceIte, false_and, not_false_eq_true, true_or, true_and, false_or, or_true]
theorem m262_58 (d : Nat) (a0 a3 a4 a5 : Int) (x1 x2 : zV) (S : zS) : zF_262 d 58 [vr a0, x1, x2, vi a3, vi a4, vi a5] [] S = zchk ((zk S a0).1 = 33) (zchk (((zk S (zm S a0 41)).1 = 0 ∨ (zk S (zm S a0 41)).1 = 40) ∧ 0 ≤ a5 ∧ a5 < (zk S (zm S a0 41)).2) (zF_262 d 76 [vr a0, vu, vu, vi a3, vu, vi a5] [vi (qb (¬(a3 < zm S (zm S a0 41) a5))), vi a4] S)) := by
  rw [b262_58]
  by_cases h : a3 < zm S (zm S a0 41) a5
  · simp only [if_pos h, b262_75, qb, h, ↓reduceIte, true_and, not_true_eq_false, false_or, true_or, false_and, or_true]
  · simp only [if_neg h, b262_71, qb, h, ↓reduceIte, false_and, not_false_eq_true, true_or, true_and, false_or, or_true]
theorem m268_102 (d : Nat) (a0 a2 : Int) (x1 x3 x4 x5 : zV) (S : zS) : zF_268 d 102 [vr a0, x1, vi a2, x3, x4, x5] [] S = zchk ((zk S a0).1 = 33) (zchk (((zk S (zm S a0 61)).1 = 3 ∨ (zk S (zm S a0 61)).1 = 4) ∧ 0 ≤ a2 ∧ a2 < (zk S (zm S a0 61)).2) (zF_268 d 147 [vu, vu, vu, vu, vu, vu] [vi (qb (¬(zm S (zm S a0 61) a2 = 0)))] S)) := by
  rw [b268_102]
  by_cases h : zm S (zm S a0 61) a2 = 0
  · simp only [if_pos h, b268_115, qb, h, ↓reduceIte, true_and, not_true_eq_false, false_or, true_or, false_and, or_true]
  · simp only [if_neg h, b268_111, qb, h, ↓reduceIte, false_and, not_false_eq_true, true_or, true_and, false_or, or_true]
theorem m268_48 (d : Nat) (a0 a1 a2 a3 s0 s1 : Int) (x4 x5 : zV) (S : zS) : zF_268 d 48 [vr a0, vi a1, vi a2, vi a3, x4, x5] [vi s1, vr s0] S = zF_268 d 56 [vr a0, vi a1, vi a2, vi a3, vu, vu] [vi (if s1 = 0 then 2 else 0), vr s0] S := by
  rw [b268_48]
  by_cases h : s1 = 0
  · simp only [if_pos h, b268_55, qb, ↓reduceIte, true_and, not_true_eq_false, false_or, true_or, false_and, or_true]
  · simp only [if_neg h, b268_51, qb, ↓reduceIte, false_and, not_false_eq_true, true_or, true_and, false_or, or_true]
theorem m268_21 (d : Nat) (a0 a1 a2 a3 s0 : Int) (x4 x5 : zV) (S : zS) : zF_268 d 21 [vr a0, vi a1, vi a2, vi a3, x4, x5] [vi s0] S = zF_268 d 29 [vr a0, vi a1, vi a2, vi a3, vu, vu] [vi (qb (¬(s0 = 0)))] S := by
  rw [b268_21]
  by_cases h : s0 = 0
  · simp only [if_pos h, b268_28, qb, h, ↓reduceIte, true_and, not_true_eq_false, false_or, true_or, false_and, or_true]
  · simp only [if_neg h, b268_24, qb, h, ↓reduceIte, false_and, not_false_eq_true, true_or, true_and, false_or, or_true]
theorem m271_19 (d : Nat) (a0 a1 a2 s0 s1 : Int) (x3 : zV) (S : zS) : zF_271 d 19 [vr a0, vi a1, vi a2, x3] [vi s1, vr s0] S = zF_271 d 27 [vr a0, vi a1, vi a2, vu] [vi (if s1 = 0 then 2 else 0), vr s0] S := by
  rw [b271_19]
  by_cases h : s1 = 0
  · simp only [if_pos h, b271_26, qb, ↓reduceIte, true_and, not_true_eq_false, false_or, true_or, false_and, or_true]
  · simp only [if_neg h, b271_22, qb, ↓reduceIte, false_and, not_false_eq_true, true_or, true_and, false_or, or_true]
theorem m272_45 (d : Nat) (s0 : Int) (x0 x1 x2 x3 x4 : zV) (S : zS) : zF_272 d 45 [x0, x1, x2, x3, x4] [vi s0] S = zF_272 d 53 [vu, vu, vu, vu, vu] [vi (qb (¬(s0 = 0)))] S := by
  rw [b272_45]
  by_cases h : s0 = 0
  · simp only [if_pos h, b272_52, qb, h, ↓reduceIte, true_and, not_true_eq_false, false_or, true_or, false_and, or_true]
  · simp only [if_neg h, b272_48, qb, h, ↓reduceIte, false_and, not_false_eq_true, true_or, true_and, false_or, or_true]
theorem m273_18 (d : Nat) (a0 a1 a2 a3 a4 s0 s1 : Int) (S : zS) : zF_273 d 18 [vr a0, vi a1, vi a2, vi a3, vi a4] [vi s1, vr s0] S = zF_273 d 26 [vr a0, vi a1, vi a2, vi a3, vi a4] [vi (qb (s1 = 0)), vr s0] S := by
  rw [b273_18]
  by_cases h : s1 = 0
  · simp only [if_pos h, b273_25, qb, h, ↓reduceIte, true_and, not_true_eq_false, false_or, true_or, false_and, or_true]
  · simp only [if_neg h, b273_21, qb, h, ↓reduceIte, false_and, not_false_eq_true, true_or, true_and, false_or, or_true]
theorem m275_41 (d : Nat) (a0 a1 a2 a3 s0 s1 : Int) (x4 x5 : zV) (S : zS) : zF_275 d 41 [vr a0, vi a1, vi a2, vi a3, x4, x5] [vi s1, vr s0] S = zF_275 d 49 [vr a0, vi a1, vi a2, vi a3, vu, vu] [vi (if s1 = 0 then 2 else 0), vr s0] S := by
  rw [b275_41]
  by_cases h : s1 = 0
  · simp only [if_pos h, b275_48, qb, ↓reduceIte, true_and, not_true_eq_false, false_or, true_or, false_and, or_true]
  · simp only [if_neg h, b275_44, qb, ↓reduceIte, false_and, not_false_eq_true, true_or, true_and, false_or, or_true]
theorem m275_13 (d : Nat) (a0 a1 a2 a3 s0 : Int) (x4 x5 : zV) (S : zS) : zF_275 d 13 [vr a0, vi a1, vi a2, vi a3, x4, x5] [vi s0] S = zF_275 d 21 [vr a0, vi a1, vi a2, vi a3, vu, vu] [vi (qb (¬(s0 = 0)))] S := by
  rw [b275_13]
  by_cases h : s0 = 0
  · simp only [if_pos h, b275_20, qb, h, ↓reduceIte, true_and, not_true_eq_false, false_or, true_or, false_and, or_true]
  · simp only [if_neg h, b275_16, qb, h, ↓reduceIte, false_and, not_false_eq_true, true_or, true_and, false_or, or_true]
theorem m276_39 (d : Nat) (a0 a1 a2 s0 : Int) (x3 x4 x5 x6 x7 : zV) (S : zS) : zF_276 d 39 [vr a0, vi a1, vi a2, x3, x4, x5, x6, x7] [vr s0] S = zchk ((zk S a0).1 = 33) (zF_276 d 53 [vr a0, vi a1, vi a2, vu, vu, vu, vu, vu] [vi (if zm S a0 65 = 20 then 2 else 0), vr s0] S) := by
  rw [b276_39]
  by_cases h : zm S a0 65 = 20
  · simp only [if_pos h, b276_48, qb, ↓reduceIte, true_and, not_true_eq_false, false_or, true_or, false_and, or_true]
  · simp only [if_neg h, b276_52, qb, ↓reduceIte, false_and, not_false_eq_true, true_or, true_and, false_or, or_true]
theorem m276_12 (d : Nat) (a0 a1 a2 s0 : Int) (x3 x4 x5 x6 x7 : zV) (S : zS) : zF_276 d 12 [vr a0, vi a1, vi a2, x3, x4, x5, x6, x7] [vi s0] S = zF_276 d 20 [vr a0, vi a1, vi a2, vu, vu, vu, vu, vu] [vi (qb (¬(s0 = 0)))] S := by
  rw [b276_12]
  by_cases h : s0 = 0
  · simp only [if_pos h, b276_19, qb, h, ↓reduceIte, true_and, not_true_eq_false, false_or, true_or, false_and, or_true]
  · simp only [if_neg h, b276_15, qb, h, ↓reduceIte, false_and, not_false_eq_true, true_or, true_and, false_or, or_true]
theorem m278_186 (d : Nat) (a0 a1 a2 a3 a4 a5 a6 a10 s0 s1 s2 : Int) (x7 x8 x9 : zV) (S : zS) : zF_278 d 186 [vr a0, vi a1, vi a2, vi a3, vi a4, vi a5, vi a6, x7, x8, x9, vi a10] [vi s2, vi s1, vr s0] S = zF_278 d 199 [vr a0, vi a1, vi a2, vi a3, vi a4, vi a5, vi a6, vu, vu, vu, vu] [vi (if a10 = 0 then 0 else (zshl 1 a4)), vi s2, vi s1, vr s0] S := by
  rw [b278_186]
  by_cases h : a10 = 0
  · simp only [if_pos h, b278_198, qb, ↓reduceIte, true_and, not_true_eq_false, false_or, true_or, false_and, or_true]
  · simp only [if_neg h, b278_191, qb, ↓reduceIte, false_and, not_false_eq_true, true_or, true_and, false_or, or_true]
theorem m278_147 (d : Nat) (a0 a1 a2 a3 a4 a5 a6 s0 : Int) (x7 x8 x9 x10 : zV) (S : zS) : zF_278 d 147 [vr a0, vi a1, vi a2, vi a3, vi a4, vi a5, vi a6, x7, x8, x9, x10] [vi s0] S = zF_278 d 161 [vr a0, vi a1, vi a2, vi a3, vi a4, vu, vi a6, vu, vu, vu, vi s0] [vi (qb (¬(s0 = 0))), vi a5] S := by
  rw [b278_147]
  by_cases h : s0 = 0
  · simp only [if_pos h, b278_160, qb, h, ↓reduceIte, true_and, not_true_eq_false, false_or, true_or, false_and, or_true]
  · simp only [if_neg h, b278_156, qb, h, ↓reduceIte, false_and, not_false_eq_true, true_or, true_and, false_or, or_true]
theorem m278_137 (d : Nat) (a0 a1 a2 a3 a4 a5 a6 : Int) (x7 x8 x9 x10 : zV) (S : zS) : zF_278 d 137 [vr a0, vi a1, vi a2, vi a3, vi a4, vi a5, vi a6, x7, x8, x9, x10] [] S = zF_278 d 147 [vr a0, vi a1, vi a2, vi a3, vi a4, vi a5, vi a6, vu, vu, vu, vu] [vi (qb (0 < a5))] S := by
  rw [b278_137]
  by_cases h : 0 < a5
  · simp only [if_pos h, b278_142, qb, h, ↓reduceIte, true_and, not_true_eq_false, false_or, true_or, false_and, or_true]
  · simp only [if_neg h, b278_146, qb, h, ↓reduceIte, false_and, not_false_eq_true, true_or, true_and, false_or, or_true]
theorem m278_124 (d : Nat) (a0 a1 a2 a3 a4 a5 a6 s0 : Int) (x7 x8 x9 x10 : zV) (S : zS) : zF_278 d 124 [vr a0, vi a1, vi a2, vi a3, vi a4, vi a5, vi a6, x7, x8, x9, x10] [vi s0] S = zF_278 d 147 [vr a0, vi a1, vi a2, vi a3, vi a4, vi a5, vi a6, vu, vu, vu, vu] [vi (qb ((zand (zshr s0 a4) 1 = 1) ∧ (0 < a5)))] S := by
  rw [b278_124]
  by_cases h : zand (zshr s0 a4) 1 = 1
  · simp only [if_pos h, m278_137, qb, h, ↓reduceIte, true_and, not_true_eq_false, false_or, true_or, false_and, or_true]
  · simp only [if_neg h, b278_146, qb, h, ↓reduceIte, false_and, not_false_eq_true, true_or, true_and, false_or, or_true]
theorem m281_30 (d : Nat) (a0 a1 a2 a3 a4 s0 : Int) (x5 : zV) (S : zS) : zF_281 d 30 [vr a0, vi a1, vi a2, vi a3, vi a4, x5] [vi s0] S = zF_281 d 43 [vr a0, vi a1, vi a2, vi a3, vi a4, vu] [vi (qb (s0 = 0)), vr a0] S := by
  rw [b281_30]
  by_cases h : s0 = 0
  · simp only [if_pos h, b281_42, qb, h, ↓reduceIte, true_and, not_true_eq_false, false_or, true_or, false_and, or_true]
  · simp only [if_neg h, b281_38, qb, h, ↓reduceIte, false_and, not_false_eq_true, true_or, true_and, false_or, or_true]
theorem m281_22 (d : Nat) (a0 a1 a2 a3 a4 s0 : Int) (x5 : zV) (S : zS) : zF_281 d 22 [vr a0, vi a1, vi a2, vi a3, vi a4, x5] [vi s0] S = zF_281 d 30 [vr a0, vi a1, vi a2, vi a3, vi a4, vu] [vi (qb (¬(s0 = 0)))] S := by
  rw [b281_22]
  by_cases h : s0 = 0
  · simp only [if_pos h, b281_29, qb, h, ↓reduceIte, true_and, not_true_eq_false, false_or, true_or, false_and, or_true]
  · simp only [if_neg h, b281_25, qb, h, ↓reduceIte, false_and, not_false_eq_true, true_or, true_and, false_or, or_true]
theorem m282_30 (d : Nat) (a0 a1 a2 a3 a4 s0 : Int) (x5 x6 : zV) (S : zS) : zF_282 d 30 [vr a0, vi a1, vi a2, vi a3, vi a4, x5, x6] [vi s0] S = zchk ((zk S a0).1 = 33) (zchk (((zk S (zm S a0 55)).1 = 0 ∨ (zk S (zm S a0 55)).1 = 40) ∧ 0 ≤ a2 ∧ a2 < (zk S (zm S a0 55)).2) (zF_282 d 48 [vr a0, vi a1, vi a2, vi a3, vi a4, vi s0, vu] [vi (qb (s0 = 0)), vi (zm S (zm S a0 55) a2)] S)) := by
  rw [b282_30]
  by_cases h : s0 = 0
  · simp only [if_pos h, b282_47, qb, h, ↓reduceIte, true_and, not_true_eq_false, false_or, true_or, false_and, or_true]
  · simp only [if_neg h, b282_43, qb, h, ↓reduceIte, false_and, not_false_eq_true, true_or, true_and, false_or, or_true]
theorem m282_15 (d : Nat) (a0 a1 a2 a3 a4 : Int) (S : zS) : zF_282 d 15 [vr a0, vi a1, vi a2, vi a3, vi a4, vu, vu] [] S = zchk ((zk S a0).1 = 33) (zchk (((zk S (zm S a0 59)).1 = 0 ∨ (zk S (zm S a0 59)).1 = 40) ∧ 0 ≤ a2 ∧ a2 < (zk S (zm S a0 59)).2) (zF_282 d 30 [vr a0, vi a1, vi a2, vi a3, vi a4, vu, vu] [vi (qb (a3 < zm S (zm S a0 59) a2))] S)) := by
  rw [b282_15]
  by_cases h : a3 < zm S (zm S a0 59) a2
  · simp only [if_pos h, b282_25, qb, h, ↓reduceIte, true_and, not_true_eq_false, false_or, true_or, false_and, or_true]
  · simp only [if_neg h, b282_29, qb, h, ↓reduceIte, false_and, not_false_eq_true, true_or, true_and, false_or, or_true]
theorem m283_249 (d : Nat) (s0 : Int) (x0 x1 x2 x3 x4 x5 x6 x7 x8 : zV) (S : zS) : zF_283 d 249 [x0, x1, x2, x3, x4, x5, x6, x7, x8] [vi s0] S = zF_283 d 257 [vu, vu, vu, vu, vu, vu, vu, vu, vu] [vi (qb (¬(s0 = 0)))] S := by
  rw [b283_249]
  by_cases h : s0 = 0
  · simp only [if_pos h, b283_256, qb, h, ↓reduceIte, true_and, not_true_eq_false, false_or, true_or, false_and, or_true]
  · simp only [if_neg h, b283_252, qb, h, ↓reduceIte, false_and, not_false_eq_true, true_or, true_and, false_or, or_true]
theorem m283_164 (d : Nat) (a0 a1 a7 a8 : Int) (x2 x3 x4 x5 x6 : zV) (S : zS) : zF_283 d 164 [vr a0, vi a1, x2, x3, x4, x5, x6, vi a7, vi a8] [] S = zchk ((zk S a0).1 = 33) (zchk (((zk S (zm S a0 35)).1 = 2 ∨ (zk S (zm S a0 35)).1 = 2) ∧ 0 ≤ a7 ∧ a7 < (zk S (zm S a0 35)).2) (zF_283 d 181 [vr a0, vi a1, vu, vu, vu, vu, vu, vi a7, vu] [vi (qb (a8 = zm S (zm S a0 35) a7))] S)) := by
  rw [b283_164]
  by_cases h : a8 = zm S (zm S a0 35) a7
  · simp only [if_pos h, b283_176, qb, h, ↓reduceIte, true_and, not_true_eq_false, false_or, true_or, false_and, or_true]
  · simp only [if_neg h, b283_180, qb, h, ↓reduceIte, false_and, not_false_eq_true, true_or, true_and, false_or, or_true]
theorem m283_149 (d : Nat) (a0 a1 a7 a8 s0 s1 s2 : Int) (S : zS) : zF_283 d 149 [vr a0, vi a1, vu, vu, vu, vu, vu, vi a7, vi a8] [vi s2, vr s1, vi s0] S = zchk (((zk S s1).1 = 2 ∨ (zk S s1).1 = 2) ∧ 0 ≤ s2 ∧ s2 < (zk S s1).2) (zF_283 d 181 [vr a0, vi a1, vu, vu, vu, vu, vu, vi a7, vu] [vi (qb (s0 = z32 ((zm S s1 s2) - 48)))] S) := by
  rw [b283_149]
  by_cases h : s0 = z32 ((zm S s1 s2) - 48)
  · simp only [if_pos h, b283_156, qb, h, ↓reduceIte, true_and, not_true_eq_false, false_or, true_or, false_and, or_true]
  · simp only [if_neg h, b283_160, qb, h, ↓reduceIte, false_and, not_false_eq_true, true_or, true_and, false_or, or_true]
theorem m283_62 (d : Nat) (a0 a1 a2 : Int) (x3 x4 x5 x6 x7 x8 : zV) (S : zS) : zF_283 d 62 [vr a0, vi a1, vi a2, x3, x4, x5, x6, x7, x8] [] S = zchk ((zk S a0).1 = 33) (zF_283 d 79 [vr a0, vi a1, vu, vu, vu, vu, vu, vu, vu] [vi (qb (z32 ((z32 (a2 - a1)) - 1) = zm S a0 36))] S) := by
  rw [b283_62]
  by_cases h : z32 ((z32 (a2 - a1)) - 1) = zm S a0 36
  · simp only [if_pos h, b283_74, qb, h, ↓reduceIte, true_and, not_true_eq_false, false_or, true_or, false_and, or_true]
  · simp only [if_neg h, b283_78, qb, h, ↓reduceIte, false_and, not_false_eq_true, true_or, true_and, false_or, or_true]
theorem m283_43 (d : Nat) (a0 a1 a2 a5 : Int) (x3 x4 x6 x7 x8 : zV) (S : zS) : zF_283 d 43 [vr a0, vi a1, vi a2, x3, x4, vi a5, x6, x7, x8] [] S = zF_283 d 55 [vr a0, vi a1, vi a2, vu, vu, vu, vu, vu, vu] [vi (qb (a5 = 60))] S := by
  rw [b283_43]
  by_cases h : a5 = 60
  · simp only [if_pos h, b283_50, qb, h, ↓reduceIte, true_and, not_true_eq_false, false_or, true_or, false_and, or_true]
  · simp only [if_neg h, b283_54, qb, h, ↓reduceIte, false_and, not_false_eq_true, true_or, true_and, false_or, or_true]
theorem m283_15 (d : Nat) (a0 a1 a2 a3 a4 s0 : Int) (x5 x6 x7 x8 : zV) (S : zS) : zF_283 d 15 [vr a0, vi a1, vi a2, vi a3, vi a4, x5, x6, x7, x8] [vi s0] S = zF_283 d 27 [vr a0, vi a1, vi a2, vi a3, vi a4, vi s0, vu, vu, vu] [vi (qb (a1 < a2))] S := by
  rw [b283_15]
  by_cases h : a1 < a2
  · simp only [if_pos h, b283_22, qb, h, ↓reduceIte, true_and, not_true_eq_false, false_or, true_or, false_and, or_true]
  · simp only [if_neg h, b283_26, qb, h, ↓reduceIte, false_and, not_false_eq_true, true_or, true_and, false_or, or_true]
theorem m284_269 (d : Nat) (s0 : Int) (x0 x1 x2 x3 x4 x5 x6 x7 x8 : zV) (S : zS) : zF_284 d 269 [x0, x1, x2, x3, x4, x5, x6, x7, x8] [vi s0] S = zF_284 d 277 [vu, vu, vu, vu, vu, vu, vu, vu, vu] [vi (qb (¬(s0 = 0)))] S := by
  rw [b284_269]
  by_cases h : s0 = 0
  · simp only [if_pos h, b284_276, qb, h, ↓reduceIte, true_and, not_true_eq_false, false_or, true_or, false_and, or_true]
  · simp only [if_neg h, b284_272, qb, h, ↓reduceIte, false_and, not_false_eq_true, true_or, true_and, false_or, or_true]
theorem m284_237 (d : Nat) (a0 a3 a4 a5 a8 : Int) (x1 x2 x6 x7 : zV) (S : zS) : zF_284 d 237 [vr a0, x1, x2, vi a3, vi a4, vi a5, x6, x7, vi a8] [] S = zF_284 d 254 [vr a0, vu, vu, vi a3, vi a4, vu, vu, vu, vu] [vi (if a8 = 0 then a4 else (z32 (a4 - 1))), vi a5, vr a0] S := by
  rw [b284_237]
  by_cases h : a8 = 0
  · simp only [if_pos h, b284_252, qb, ↓reduceIte, true_and, not_true_eq_false, false_or, true_or, false_and, or_true]
  · simp only [if_neg h, b284_245, qb, ↓reduceIte, false_and, not_false_eq_true, true_or, true_and, false_or, or_true]
theorem m284_217 (d : Nat) (a0 a3 a4 a5 a8 : Int) (x1 x2 x6 x7 : zV) (S : zS) : zF_284 d 217 [vr a0, x1, x2, vi a3, vi a4, vi a5, x6, x7, vi a8] [] S = zchk ((zk S a0).1 = 33) (zF_284 d 230 [vr a0, vu, vu, vi a3, vi a4, vi a5, vu, vu, vi a8] [vi (qb (zm S a0 36 = 1))] S) := by
  rw [b284_217]
  by_cases h : zm S a0 36 = 1
  · simp only [if_pos h, b284_225, qb, h, ↓reduceIte, true_and, not_true_eq_false, false_or, true_or, false_and, or_true]
  · simp only [if_neg h, b284_229, qb, h, ↓reduceIte, false_and, not_false_eq_true, true_or, true_and, false_or, or_true]
theorem m284_151 (d : Nat) (a0 a3 a4 a5 a6 a7 s0 : Int) (x1 x2 x8 : zV) (S : zS) : zF_284 d 151 [vr a0, x1, x2, vi a3, vi a4, vi a5, vi a6, vi a7, x8] [vi s0] S = zF_284 d 159 [vr a0, vu, vu, vi a3, vi a4, vi a5, vi a6, vi a7, vu] [vi (qb (¬(s0 = 0)))] S := by
  rw [b284_151]
  by_cases h : s0 = 0
  · simp only [if_pos h, b284_158, qb, h, ↓reduceIte, true_and, not_true_eq_false, false_or, true_or, false_and, or_true]
  · simp only [if_neg h, b284_154, qb, h, ↓reduceIte, false_and, not_false_eq_true, true_or, true_and, false_or, or_true]
theorem m284_79 (d : Nat) (a0 a3 a4 a5 s0 : Int) (x1 x2 x6 x7 x8 : zV) (S : zS) : zF_284 d 79 [vr a0, x1, x2, vi a3, vi a4, vi a5, x6, x7, x8] [vi s0] S = zchk ((zk S a0).1 = 33) (zF_284 d 91 [vr a0, vu, vu, vi a3, vi a4, vi a5, vu, vu, vu] [vi (qb (s0 = zm S a0 32))] S) := by
  rw [b284_79]
  by_cases h : s0 = zm S a0 32
  · simp only [if_pos h, b284_86, qb, h, ↓reduceIte, true_and, not_true_eq_false, false_or, true_or, false_and, or_true]
  · simp only [if_neg h, b284_90, qb, h, ↓reduceIte, false_and, not_false_eq_true, true_or, true_and, false_or, or_true]
theorem m284_66 (d : Nat) (a0 a3 a4 s0 : Int) (x1 x2 x5 x6 x7 x8 : zV) (S : zS) : zF_284 d 66 [vr a0, x1, x2, vi a3, vi a4, x5, x6, x7, x8] [vi s0] S = zF_284 d 79 [vr a0, vu, vu, vi a3, vi a4, vi s0, vu, vu, vu] [vi (qb (s0 = 1))] S := by
  rw [b284_66]
  by_cases h : s0 = 1
  · simp only [if_pos h, b284_74, qb, h, ↓reduceIte, true_and, not_true_eq_false, false_or, true_or, false_and, or_true]
  · simp only [if_neg h, b284_78, qb, h, ↓reduceIte, false_and, not_false_eq_true, true_or, true_and, false_or, or_true]
theorem m284_50 (d : Nat) (a0 a3 a4 : Int) (x1 x2 x5 x6 x7 x8 : zV) (S : zS) : zF_284 d 50 [vr a0, x1, x2, vi a3, vi a4, x5, x6, x7, x8] [] S = zchk ((zk S a0).1 = 33) (zchk (((zk S (zm S a0 44)).1 = 0 ∨ (zk S (zm S a0 44)).1 = 40) ∧ 0 ≤ (0 : Int) ∧ (0 : Int) < (zk S (zm S a0 44)).2) (zF_284 d 66 [vr a0, vu, vu, vi a3, vi a4, vu, vu, vu, vu] [vi (qb (zm S (zm S a0 44) 0 = 40))] S)) := by
  rw [b284_50]
  by_cases h : zm S (zm S a0 44) 0 = 40
  · simp only [if_pos h, b284_61, qb, h, ↓reduceIte, true_and, not_true_eq_false, false_or, true_or, false_and, or_true]
  · simp only [if_neg h, b284_65, qb, h, ↓reduceIte, false_and, not_false_eq_true, true_or, true_and, false_or, or_true]
theorem m285_21 (d : Nat) (a0 a1 a3 s0 s1 s2 : Int) (x2 : zV) (S : zS) : zF_285 d 21 [vr a0, vi a1, x2, vi a3] [vi s2, vr s1, vi s0] S = zchk (((zk S s1).1 = 3 ∨ (zk S s1).1 = 4) ∧ 0 ≤ s2 ∧ s2 < (zk S s1).2) (zF_285 d 30 [vr a0, vi a1, vu, vi a3] [vi (qb (¬(zm S s1 s2 = 0))), vi s0] S) := by
  rw [b285_21]
  by_cases h : zm S s1 s2 = 0
  · simp only [if_pos h, b285_29, qb, h, ↓reduceIte, true_and, not_true_eq_false, false_or, true_or, false_and, or_true]
  · simp only [if_neg h, b285_25, qb, h, ↓reduceIte, false_and, not_false_eq_true, true_or, true_and, false_or, or_true]
theorem m286_31 (d : Nat) (a0 a1 a3 s0 s1 : Int) (x2 : zV) (S : zS) : zF_286 d 31 [vr a0, vi a1, x2, vi a3] [vi s1, vi s0] S = zF_286 d 39 [vr a0, vi a1, vu, vi a3] [vi (qb (s1 = 0)), vi s0] S := by
  rw [b286_31]
  by_cases h : s1 = 0
  · simp only [if_pos h, b286_38, qb, h, ↓reduceIte, true_and, not_true_eq_false, false_or, true_or, false_and, or_true]
  · simp only [if_neg h, b286_34, qb, h, ↓reduceIte, false_and, not_false_eq_true, true_or, true_and, false_or, or_true]
theorem m287_20 (d : Nat) (a0 a1 a2 s0 s1 : Int) (S : zS) : zF_287 d 20 [vr a0, vi a1, vi a2] [vi s1, vr s0] S = zF_287 d 28 [vr a0, vi a1, vi a2] [vi (if s1 = 0 then 2 else 0), vr s0] S := by
  rw [b287_20]
  by_cases h : s1 = 0
  · simp only [if_pos h, b287_27, qb, ↓reduceIte, true_and, not_true_eq_false, false_or, true_or, false_and, or_true]
  · simp only [if_neg h, b287_23, qb, ↓reduceIte, false_and, not_false_eq_true, true_or, true_and, false_or, or_true]
theorem m290_14 (d : Nat) (a0 a1 s0 : Int) (S : zS) : zF_290 d 14 [vr a0, vi a1] [vr s0] S = zchk ((zk S a0).1 = 33) (zF_290 d 28 [vr a0, vi a1] [vi (if zm S a0 76 = 6 then 2 else 0), vr s0] S) := by
  rw [b290_14]
  by_cases h : zm S a0 76 = 6
  · simp only [if_pos h, b290_23, qb, ↓reduceIte, true_and, not_true_eq_false, false_or, true_or, false_and, or_true]
  · simp only [if_neg h, b290_27, qb, ↓reduceIte, false_and, not_false_eq_true, true_or, true_and, false_or, or_true]
theorem m291_37 (d : Nat) (a0 a1 a2 a3 s0 : Int) (x4 : zV) (S : zS) : zF_291 d 37 [vr a0, vi a1, vi a2, vi a3, x4] [vi s0] S = zF_291 d 50 [vr a0, vi a1, vi a2, vi a3, vu] [vi (qb (s0 = 0)), vr a0] S := by
  rw [b291_37]
  by_cases h : s0 = 0
  · simp only [if_pos h, b291_49, qb, h, ↓reduceIte, true_and, not_true_eq_false, false_or, true_or, false_and, or_true]
  · simp only [if_neg h, b291_45, qb, h, ↓reduceIte, false_and, not_false_eq_true, true_or, true_and, false_or, or_true]
theorem m291_29 (d : Nat) (a0 a1 a2 a3 s0 : Int) (x4 : zV) (S : zS) : zF_291 d 29 [vr a0, vi a1, vi a2, vi a3, x4] [vi s0] S = zF_291 d 37 [vr a0, vi a1, vi a2, vi a3, vu] [vi (qb (¬(s0 = 0)))] S := by
  rw [b291_29]
  by_cases h : s0 = 0
  · simp only [if_pos h, b291_36, qb, h, ↓reduceIte, true_and, not_true_eq_false, false_or, true_or, false_and, or_true]
  · simp only [if_neg h, b291_32, qb, h, ↓reduceIte, false_and, not_false_eq_true, true_or, true_and, false_or, or_true]
theorem m292_36 (d : Nat) (a0 a1 a2 a3 a4 s0 s1 s2 s3 : Int) (S : zS) : zF_292 d 36 [vr a0, vi a1, vi a2, vi a3, vi a4] [vi s3, vr s2, vi s1, vi s0] S = zchk ((zk S a0).1 = 33) (zchk (((zk S (zm S a0 17)).1 = 0 ∨ (zk S (zm S a0 17)).1 = 40) ∧ 0 ≤ a2 ∧ a2 < (zk S (zm S a0 17)).2) (zchk (((zk S s2).1 = 0 ∨ (zk S s2).1 = 40) ∧ 0 ≤ z32 (s3 + (zm S (zm S a0 17) a2)) ∧ z32 (s3 + (zm S (zm S a0 17) a2)) < (zk S s2).2) (zF_292 d 55 [vr a0, vi a1, vi a2, vu, vi a4] [vi (qb (¬(zand s1 (zxor (zm S s2 (z32 (s3 + (zm S (zm S a0 17) a2)))) (-1)) = 0))), vi s0] S))) := by
  rw [b292_36]
  by_cases h : zand s1 (zxor (zm S s2 (z32 (s3 + (zm S (zm S a0 17) a2)))) (-1)) = 0
  · simp only [if_pos h, b292_54, qb, h, ↓reduceIte, true_and, not_true_eq_false, false_or, true_or, false_and, or_true]
  · simp only [if_neg h, b292_50, qb, h, ↓reduceIte, false_and, not_false_eq_true, true_or, true_and, false_or, or_true]
theorem m293_14 (d : Nat) (a0 a1 a2 s0 s1 : Int) (S : zS) : zF_293 d 14 [vr a0, vi a1, vi a2] [vi s1, vr s0] S = zF_293 d 22 [vr a0, vi a1, vi a2] [vi (qb (s1 = 0)), vr s0] S := by
  rw [b293_14]
  by_cases h : s1 = 0
  · simp only [if_pos h, b293_21, qb, h, ↓reduceIte, true_and, not_true_eq_false, false_or, true_or, false_and, or_true]
  · simp only [if_neg h, b293_17, qb, h, ↓reduceIte, false_and, not_false_eq_true, true_or, true_and, false_or, or_true]
theorem m295_31 (d : Nat) (a0 a1 a2 a4 s0 : Int) (x3 : zV) (S : zS) : zF_295 d 31 [vr a0, vi a1, vi a2, x3, vi a4] [vi s0] S = zchk ((zk S a0).1 = 33) (zchk (((zk S (zm S a0 66)).1 = 0 ∨ (zk S (zm S a0 66)).1 = 40) ∧ 0 ≤ a4 ∧ a4 < (zk S (zm S a0 66)).2) (zF_295 d 47 [vr a0, vi a1, vi a2, vu, vi a4] [vi (qb (zm S (zm S a0 66) a4 = a2)), vi s0] S)) := by
  rw [b295_31]
  by_cases h : zm S (zm S a0 66) a4 = a2
  · simp only [if_pos h, b295_42, qb, h, ↓reduceIte, true_and, not_true_eq_false, false_or, true_or, false_and, or_true]
  · simp only [if_neg h, b295_46, qb, h, ↓reduceIte, false_and, not_false_eq_true, true_or, true_and, false_or, or_true]
theorem m296_142 (d : Nat) (a0 a2 a5 a6 : Int) (x1 x3 x4 : zV) (S : zS) : zF_296 d 142 [vr a0, x1, vi a2, x3, x4, vi a5, vi a6] [] S = zchk ((zk S a0).1 = 33) (zchk (((zk S (zm S a0 82)).1 = 0 ∨ (zk S (zm S a0 82)).1 = 40) ∧ 0 ≤ a6 ∧ a6 < (zk S (zm S a0 82)).2) (zF_296 d 160 [vr a0, vu, vi a2, vu, vu, vu, vi a6] [vi (qb (zm S (zm S a0 82) a6 = a2)), vi a5] S)) := by
  rw [b296_142]
  by_cases h : zm S (zm S a0 82) a6 = a2
  · simp only [if_pos h, b296_155, qb, h, ↓reduceIte, true_and, not_true_eq_false, false_or, true_or, false_and, or_true]
  · simp only [if_neg h, b296_159, qb, h, ↓reduceIte, false_and, not_false_eq_true, true_or, true_and, false_or, or_true]
theorem m296_79 (d : Nat) (a0 a1 a2 a4 s0 : Int) (x3 x5 x6 : zV) (S : zS) : zF_296 d 79 [vr a0, vi a1, vi a2, x3, vi a4, x5, x6] [vr s0] S = zF_296 d 89 [vr a0, vi a1, vi a2, vu, vu, vu, vu] [vi (if a4 = 0 then 2 else 0), vr s0] S := by
  rw [b296_79]
  by_cases h : a4 = 0
  · simp only [if_pos h, b296_88, qb, ↓reduceIte, true_and, not_true_eq_false, false_or, true_or, false_and, or_true]
  · simp only [if_neg h, b296_84, qb, ↓reduceIte, false_and, not_false_eq_true, true_or, true_and, false_or, or_true]
theorem m296_68 (d : Nat) (a0 a1 a2 a3 s0 : Int) (x4 x5 x6 : zV) (S : zS) : zF_296 d 68 [vr a0, vi a1, vi a2, vi a3, x4, x5, x6] [vi s0] S = zF_296 d 89 [vr a0, vi a1, vi a2, vu, vu, vu, vu] [vi (if a3 = 0 then 1 else (if s0 = 0 then 2 else 0)), vr a0] S := by
  rw [b296_68]
  by_cases h : a3 = 0
  · simp only [if_pos h, b296_75, qb, ↓reduceIte, true_and, not_true_eq_false, false_or, true_or, false_and, or_true]
  · simp only [if_neg h, m296_79, qb, ↓reduceIte, false_and, not_false_eq_true, true_or, true_and, false_or, or_true]
theorem m296_54 (d : Nat) (a0 a1 a2 a3 : Int) (x4 x5 x6 : zV) (S : zS) : zF_296 d 54 [vr a0, vi a1, vi a2, vi a3, x4, x5, x6] [] S = zchk ((zk S a0).1 = 33) (zF_296 d 68 [vr a0, vi a1, vi a2, vi a3, vu, vu, vu] [vi (qb (zm S a0 80 < 30))] S) := by
  rw [b296_54]
  by_cases h : zm S a0 80 < 30
  · simp only [if_pos h, b296_63, qb, h, ↓reduceIte, true_and, not_true_eq_false, false_or, true_or, false_and, or_true]
  · simp only [if_neg h, b296_67, qb, h, ↓reduceIte, false_and, not_false_eq_true, true_or, true_and, false_or, or_true]
theorem m296_13 (d : Nat) (a0 a1 a2 s0 : Int) (x3 x4 x5 x6 : zV) (S : zS) : zF_296 d 13 [vr a0, vi a1, vi a2, x3, x4, x5, x6] [vi s0] S = zF_296 d 21 [vr a0, vi a1, vi a2, vu, vu, vu, vu] [vi (qb (¬(s0 = 0)))] S := by
  rw [b296_13]
  by_cases h : s0 = 0
  · simp only [if_pos h, b296_20, qb, h, ↓reduceIte, true_and, not_true_eq_false, false_or, true_or, false_and, or_true]
  · simp only [if_neg h, b296_16, qb, h, ↓reduceIte, false_and, not_false_eq_true, true_or, true_and, false_or, or_true]
theorem m297_41 (d : Nat) (a0 a1 a2 a3 a4 s0 : Int) (x5 : zV) (S : zS) : zF_297 d 41 [vr a0, vi a1, vi a2, vi a3, vi a4, x5] [vr s0] S = zF_297 d 51 [vr a0, vi a1, vi a2, vi a3, vu, vu] [vi (if a4 = 0 then 2 else 0), vr s0] S := by
  rw [b297_41]
  by_cases h : a4 = 0
  · simp only [if_pos h, b297_50, qb, ↓reduceIte, true_and, not_true_eq_false, false_or, true_or, false_and, or_true]
  · simp only [if_neg h, b297_46, qb, ↓reduceIte, false_and, not_false_eq_true, true_or, true_and, false_or, or_true]
theorem m297_34 (d : Nat) (a0 a1 a2 a3 a4 s0 s1 : Int) (x5 : zV) (S : zS) : zF_297 d 34 [vr a0, vi a1, vi a2, vi a3, vi a4, x5] [vi s1, vr s0] S = zF_297 d 51 [vr a0, vi a1, vi a2, vi a3, vu, vu] [vi (if s1 = 0 then 1 else (if a4 = 0 then 2 else 0)), vr s0] S := by
  rw [b297_34]
  by_cases h : s1 = 0
  · simp only [if_pos h, b297_37, qb, ↓reduceIte, true_and, not_true_eq_false, false_or, true_or, false_and, or_true]
  · simp only [if_neg h, m297_41, qb, ↓reduceIte, false_and, not_false_eq_true, true_or, true_and, false_or, or_true]
theorem m297_18 (d : Nat) (a0 a1 a2 a3 s0 : Int) (x4 x5 : zV) (S : zS) : zF_297 d 18 [vr a0, vi a1, vi a2, vi a3, x4, x5] [vi s0] S = zF_297 d 26 [vr a0, vi a1, vi a2, vi a3, vu, vu] [vi (qb (¬(s0 = 0)))] S := by
  rw [b297_18]
  by_cases h : s0 = 0
  · simp only [if_pos h, b297_25, qb, h, ↓reduceIte, true_and, not_true_eq_false, false_or, true_or, false_and, or_true]
  · simp only [if_neg h, b297_21, qb, h, ↓reduceIte, false_and, not_false_eq_true, true_or, true_and, false_or, or_true]
theorem m298_76 (d : Nat) (a0 a2 a3 a4 a5 s0 : Int) (x1 x6 : zV) (S : zS) : zF_298 d 76 [vr a0, x1, vi a2, vi a3, vi a4, vi a5, x6] [vi s0] S = zF_298 d 85 [vr a0, vu, vi a2, vi a3, vi a4, vi a5, vu] [vi (qb (s0 < 2))] S := by
  rw [b298_76]
  by_cases h : s0 < 2
  · simp only [if_pos h, b298_80, qb, h, ↓reduceIte, true_and, not_true_eq_false, false_or, true_or, false_and, or_true]
  · simp only [if_neg h, b298_84, qb, h, ↓reduceIte, false_and, not_false_eq_true, true_or, true_and, false_or, or_true]
theorem m300_15 (d : Nat) (a0 a1 s0 : Int) (x2 x3 x4 : zV) (S : zS) : zF_300 d 15 [vr a0, vi a1, x2, x3, x4] [vr s0] S = zchk ((zk S a0).1 = 33) (zF_300 d 32 [vr a0, vi a1, vu, vu, vu] [vi (if 1000 < z32 ((zm S a0 3) + a1) then 2 else 0), vr s0] S) := by
  rw [b300_15]
  by_cases h : 1000 < z32 ((zm S a0 3) + a1)
  · simp only [if_pos h, b300_27, qb, ↓reduceIte, true_and, not_true_eq_false, false_or, true_or, false_and, or_true]
  · simp only [if_neg h, b300_31, qb, ↓reduceIte, false_and, not_false_eq_true, true_or, true_and, false_or, or_true]
theorem m303_48 (d : Nat) (a0 a1 a2 s0 : Int) (x3 x4 : zV) (S : zS) : zF_303 d 48 [vr a0, vi a1, vi a2, x3, x4] [vr s0] S = zchk ((zk S a0).1 = 33) (zchk (((zk S (zm S a0 70)).1 = 0 ∨ (zk S (zm S a0 70)).1 = 40) ∧ 0 ≤ a1 ∧ a1 < (zk S (zm S a0 70)).2) (zF_303 d 63 [vr a0, vi a1, vi a2, vu, vu] [vi (if zm S (zm S a0 70) a1 = (-1) then 2 else 0), vr s0] S)) := by
  rw [b303_48]
  by_cases h : zm S (zm S a0 70) a1 = (-1)
  · simp only [if_pos h, b303_58, qb, ↓reduceIte, true_and, not_true_eq_false, false_or, true_or, false_and, or_true]
  · simp only [if_neg h, b303_62, qb, ↓reduceIte, false_and, not_false_eq_true, true_or, true_and, false_or, or_true]
theorem m303_30 (d : Nat) (a0 a1 a2 s0 : Int) (x3 x4 : zV) (S : zS) : zF_303 d 30 [vr a0, vi a1, vi a2, x3, x4] [vi s0] S = zF_303 d 38 [vr a0, vi a1, vi a2, vu, vu] [vi (qb (¬(s0 = 0)))] S := by
  rw [b303_30]
  by_cases h : s0 = 0
  · simp only [if_pos h, b303_37, qb, h, ↓reduceIte, true_and, not_true_eq_false, false_or, true_or, false_and, or_true]
  · simp only [if_neg h, b303_33, qb, h, ↓reduceIte, false_and, not_false_eq_true, true_or, true_and, false_or, or_true]
theorem m304_101 (d : Nat) (a0 a1 a2 a3 a5 s0 : Int) (x4 x6 : zV) (S : zS) : zF_304 d 101 [vr a0, vi a1, vi a2, vi a3, x4, vi a5, x6] [vi s0] S = zF_304 d 112 [vr a0, vi a1, vi a2, vi a3, vu, vi a5, vu] [vi (qb (a5 < a3)), vi s0] S := by
  rw [b304_101]
  by_cases h : a5 < a3
  · simp only [if_pos h, b304_107, qb, h, ↓reduceIte, true_and, not_true_eq_false, false_or, true_or, false_and, or_true]
  · simp only [if_neg h, b304_111, qb, h, ↓reduceIte, false_and, not_false_eq_true, true_or, true_and, false_or, or_true]
theorem m304_90 (d : Nat) (a0 a1 a2 a3 a5 a6 s0 : Int) (x4 : zV) (S : zS) : zF_304 d 90 [vr a0, vi a1, vi a2, vi a3, x4, vi a5, vi a6] [vi s0] S = zchk ((zk S a0).1 = 33) (zchk (((zk S (zm S a0 77)).1 = 0 ∨ (zk S (zm S a0 77)).1 = 40) ∧ 0 ≤ a1 ∧ a1 < (zk S (zm S a0 77)).2) (zF_304 d 112 [vr a0, vi a1, vi a2, vi a3, vu, vi a5, vu] [vi (qb ((a6 = zm S (zm S a0 77) a1) ∧ (a5 < a3))), vi s0] S)) := by
  rw [b304_90]
  by_cases h : a6 = zm S (zm S a0 77) a1
  · simp only [if_pos h, m304_101, qb, h, ↓reduceIte, true_and, not_true_eq_false, false_or, true_or, false_and, or_true]
  · simp only [if_neg h, b304_111, qb, h, ↓reduceIte, false_and, not_false_eq_true, true_or, true_and, false_or, or_true]
theorem m304_14 (d : Nat) (a0 a1 a2 s0 s1 : Int) (x3 x4 x5 x6 : zV) (S : zS) : zF_304 d 14 [vr a0, vi a1, vi a2, x3, x4, x5, x6] [vi s1, vr s0] S = zF_304 d 22 [vr a0, vi a1, vi a2, vu, vu, vu, vu] [vi (qb (s1 = 0)), vr s0] S := by
  rw [b304_14]
  by_cases h : s1 = 0
  · simp only [if_pos h, b304_21, qb, h, ↓reduceIte, true_and, not_true_eq_false, false_or, true_or, false_and, or_true]
  · simp only [if_neg h, b304_17, qb, h, ↓reduceIte, false_and, not_false_eq_true, true_or, true_and, false_or, or_true]
theorem m305_6 (d : Nat) (a0 a1 s0 s1 : Int) (x2 x3 : zV) (S : zS) : zF_305 d 6 [vr a0, vi a1, x2, x3] [vi s1, vr s0] S = zF_305 d 14 [vr a0, vi a1, vu, vu] [vi (qb (s1 = 0)), vr s0] S := by
  rw [b305_6]
  by_cases h : s1 = 0
  · simp only [if_pos h, b305_13, qb, h, ↓reduceIte, true_and, not_true_eq_false, false_or, true_or, false_and, or_true]
  · simp only [if_neg h, b305_9, qb, h, ↓reduceIte, false_and, not_false_eq_true, true_or, true_and, false_or, or_true]
