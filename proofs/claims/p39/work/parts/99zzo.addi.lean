/-! A word's own objects are made. -/
theorem s_wordInit (d : Nat) (S : zS) (y N : Int) (h : 2 ≤ d) (hy : zk S y = (21, 0)) (h0 : 0 < y ∧ y < N) (hN : (zn S : Int) = N) :
    ∃ S', zD d 15 [vr y] S = some (.inl none, S') ∧ (zn S' : Int) = N + 5 ∧ zc S' = zc S + 5 ∧ zw S' = zw S + 42 ∧
      (∀ x, zk S' x = if x = N + 4 then (0, 4) else if x = N + 3 then (0, 16) else if x = N + 2 then (31, 0) else if x = N + 1 then (0, 10) else if x = N then (28, 0) else zk S x) ∧
      (∀ x, x < N → x ≠ y → zm S' x = zm S x) ∧ zm S' y 0 = N ∧ zm S' y 1 = N + 2 ∧ zm S' N 0 = N + 1 ∧ zm S' (N + 2) 0 = N + 3 ∧ zm S' (N + 2) 4 = N + 4 := by
  obtain ⟨e, rfl, h1⟩ := qd h
  obtain ⟨f, rfl, h2⟩ := qd h1
  subst hN
  obtain ⟨S1, hS1⟩ : ∃ S1, zalloc S 28 0 6 = S1 := ⟨_, rfl⟩
  have n1 : (zn S1 : Int) = zn S + 1 := by rw [← hS1]; rfl
  have m1 : zm S1 = qz (zm S) (zn S) := by rw [← hS1]; rfl
  have q1 : ∀ a, zk S1 a = if a = (zn S : Int) then (28, 0) else zk S a := fun a => by rw [← hS1]; rfl
  obtain ⟨S2, hS2⟩ : ∃ S2, zalloc S1 0 10 10 = S2 := ⟨_, rfl⟩
  have n2 : (zn S2 : Int) = zn S + 2 := by rw [← hS2, qal_n, n1]; omega
  have m2 : zm S2 = qz (zm S1) (zn S + 1) := by rw [← hS2, qal_m, n1]
  have q2 : ∀ a, zk S2 a = if a = (zn S : Int) + 1 then (0, 10) else zk S1 a := fun a => by rw [← hS2, qal_k, n1]
  obtain ⟨S3, hS3⟩ : ∃ S3, zalloc S2 31 0 6 = S3 := ⟨_, rfl⟩
  have n3 : (zn S3 : Int) = zn S + 3 := by rw [← hS3, qal_n, n2]; omega
  have q3 : ∀ a, zk S3 a = if a = (zn S : Int) + 2 then (31, 0) else zk S2 a := fun a => by rw [← hS3, qal_k, n2]
  obtain ⟨S4, hS4⟩ : ∃ S4, zalloc S3 0 16 16 = S4 := ⟨_, rfl⟩
  have n4 : (zn S4 : Int) = zn S + 4 := by rw [← hS4, qal_n, n3]; omega
  have q4 : ∀ a, zk S4 a = if a = (zn S : Int) + 3 then (0, 16) else zk S3 a := fun a => by rw [← hS4, qal_k, n3]
  obtain ⟨S5, hS5⟩ : ∃ S5, zalloc S4 0 4 4 = S5 := ⟨_, rfl⟩
  have n5 : (zn S5 : Int) = zn S + 5 := by rw [← hS5, qal_n, n4]; omega
  have q5 : ∀ a, zk S5 a = if a = (zn S : Int) + 4 then (0, 4) else zk S4 a := fun a => by rw [← hS5, qal_k, n4]
  have w5 : zc S5 = zc S + 5 ∧ zw S5 = zw S + 42 := by
    rw [← hS5, ← hS4, ← hS3, ← hS2, ← hS1]
    exact ⟨rfl, rfl⟩
  have y0 : y ≠ 0 := by omega
  have z0 : (zn S : Int) ≠ 0 := by omega
  have z2 : (zn S : Int) + 2 ≠ 0 := by omega
  have a1 : zk S2 (zn S) = (28, 0) := by rw [q2, if_neg (by omega), q1, if_pos rfl]
  have a2 : zk S2 y = (21, 0) := by rw [q2, if_neg (by omega), q1, if_neg (by omega), hy]
  have a3 : zk S4 ((zn S : Int) + 2) = (31, 0) := by rw [q4, if_neg (by omega), q3, if_pos rfl]
  have a4 : zk S5 ((zn S : Int) + 2) = (31, 0) := by rw [q5, if_neg (by omega), a3]
  have a5 : zk S5 y = (21, 0) := by rw [q5, if_neg (by omega), q4, if_neg (by omega), q3, if_neg (by omega), a2]
  obtain ⟨M1, hM1⟩ : ∃ M1, qu (zm S2) (zn S) 0 (zn S + 1) = M1 := ⟨_, rfl⟩
  obtain ⟨M2, hM2⟩ : ∃ M2, qu M1 y 0 (zn S) = M2 := ⟨_, rfl⟩
  obtain ⟨M3, hM3⟩ : ∃ M3, qu (qz (qz M2 (zn S + 2)) (zn S + 3)) (zn S + 2) 0 (zn S + 3) = M3 := ⟨_, rfl⟩
  obtain ⟨M4, hM4⟩ : ∃ M4, qu (qz M3 (zn S + 4)) (zn S + 2) 4 (zn S + 4) = M4 := ⟨_, rfl⟩
  obtain ⟨M5, hM5⟩ : ∃ M5, qu M4 y 1 (zn S + 2) = M5 := ⟨_, rfl⟩
  have i1 : zD (f + 1) 81 [vr (zn S : Int)] S1 = some (.inl none, qW S2 M1) := by
    simp (config := { maxSteps := 2000000 }) (disch := first | omega | (simp only [a1, z0, qb_in, qkW, qmW, qnW, true_and, and_true, or_self, true_or, or_true, and_self]; done) | (simp only [a1, z0, qb_in, qkW, qmW, qnW, true_and, and_true, or_self, true_or, or_true, and_self]; omega)) only [zD_81, b81_0, b81_12, qcall_l, qcall_r, qretn_l, qJ_s, qJ_n, qV0, qEx, ↓qif0, ↓zchk_pos, ↓reduceIte, qput, qWW, qmW, qkW, qnW, Int.reduceToNat, hS2, n1, a1, hM1]
  have e3 : ∀ m, zalloc (qW S2 m) 31 0 6 = qW S3 (qz m (zn S + 2)) := fun m => by rw [qalW, hS3, n2]
  have e4 : ∀ m, zalloc (qW S3 m) 0 16 16 = qW S4 (qz m (zn S + 3)) := fun m => by rw [qalW, hS4, n3]
  have e5 : ∀ m, zalloc (qW S4 m) 0 4 4 = qW S5 (qz m (zn S + 4)) := fun m => by rw [qalW, hS5, n4]
  have i2 : zD (f + 1) 107 [vr ((zn S : Int) + 2)] (qW S3 (qz M2 (zn S + 2))) = some (.inl none, qW S5 M4) := by
    simp (config := { maxSteps := 2000000 }) (disch := first | omega | (simp only [a3, a4, z2, qb_in, qkW, qmW, qnW, true_and, and_true, or_self, true_or, or_true, and_self]; done) | (simp only [a3, a4, z2, qb_in, qkW, qmW, qnW, true_and, and_true, or_self, true_or, or_true, and_self]; omega)) only [zD_107, b107_0, b107_12, b107_19, qcall_l, qcall_r, qretn_l, qJ_s, qJ_n, qV0, qEx, ↓qif0, ↓zchk_pos, ↓reduceIte, qput, qWW, qmW, qkW, qnW, Int.reduceToNat, e4, n3, a3, hM3, e5, n4, a4, hM4]
  refine ⟨qW S5 M5, ?_, n5, w5.1, w5.2, fun x => ?_, fun x hx xy => ?_, ?_, ?_, ?_, ?_, ?_⟩
  · simp (config := { maxSteps := 2000000 }) (disch := first | omega | (simp only [y0, z0, a2, n2, z2, a5, qb_in, qkW, qmW, qnW, true_and, and_true, or_self, true_or, or_true, and_self]; done) | (simp only [y0, z0, a2, n2, z2, a5, qb_in, qkW, qmW, qnW, true_and, and_true, or_self, true_or, or_true, and_self]; omega)) only [zD_15, b15_0, b15_12, b15_23, qcall_l, qcall_r, qretn_l, qJ_s, qJ_n, qV0, qEx, ↓qif0, ↓zchk_pos, ↓reduceIte, qput, qWW, qmW, qkW, qnW, hS1, i1, a2, hM2, e3, n2, i2, a5, hM5]
  · show zk S5 x = _
    rw [q5, q4, q3, q2, q1]
  · show M5 x = zm S x
    rw [← hM5, qu_o _ _ _ _ _ xy, ← hM4, qu_o _ _ _ _ _ (by omega), qz_o _ (by omega), ← hM3, qu_o _ _ _ _ _ (by omega), qz_o _ (by omega), qz_o _ (by omega), ← hM2, qu_o _ _ _ _ _ xy, ← hM1, qu_o _ _ _ _ _ (by omega), m2, qz_o _ (by omega), m1, qz_o _ (by omega)]
  · show M5 y 0 = _
    rw [← hM5, qu_i _ _ _ _ _ (by decide), ← hM4, qu_o _ _ _ _ _ (by omega), qz_o _ (by omega), ← hM3, qu_o _ _ _ _ _ (by omega), qz_o _ (by omega), qz_o _ (by omega), ← hM2, qu_s]
  · show M5 y 1 = _
    rw [← hM5, qu_s]
  · show M5 (zn S) 0 = _
    rw [← hM5, qu_o _ _ _ _ _ (by omega), ← hM4, qu_o _ _ _ _ _ (by omega), qz_o _ (by omega), ← hM3, qu_o _ _ _ _ _ (by omega), qz_o _ (by omega), qz_o _ (by omega), ← hM2, qu_o _ _ _ _ _ (by omega), ← hM1, qu_s]
  · show M5 ((zn S : Int) + 2) 0 = _
    rw [← hM5, qu_o _ _ _ _ _ (by omega), ← hM4, qu_i _ _ _ _ _ (by decide), qz_o _ (by omega), ← hM3, qu_s]
  · show M5 ((zn S : Int) + 2) 4 = _
    rw [← hM5, qu_o _ _ _ _ _ (by omega), ← hM4, qu_s]
