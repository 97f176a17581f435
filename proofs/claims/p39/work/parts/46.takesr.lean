/-! The reference takes a word from the tape. -/
/-- whether rows agree from j on, f places -/
def qeqs (a b : Int → Int) : Nat → Int → Int → Int
  | 0, _, is => is
  | f + 1, j, is => if is = 0 then 0 else qeqs a b f (j + 1) (qb (a j = b j))
theorem qeqs_r (a b : Int → Int) : ∀ (f : Nat) (j is : Int), 0 ≤ is ∧ is ≤ 1 → 0 ≤ qeqs a b f j is ∧ qeqs a b f j is ≤ 1
  | 0, _, _, h => h
  | f + 1, j, is, h => by
    simp only [qeqs]
    split
    · omega
    · exact qeqs_r a b f (j + 1) _ (qb_r _)
theorem qeqs_0 (a b : Int → Int) (f : Nat) (j : Int) : qeqs a b f j 0 = 0 := by
  cases f
  · rfl
  · exact if_pos rfl
theorem qeqs_1 (a b : Int → Int) : ∀ (f : Nat) (j is : Int), 0 ≤ is ∧ is ≤ 1 → (qeqs a b f j is = 1 ↔ is = 1 ∧ ∀ i, j ≤ i → i < j + f → a i = b i)
  | 0, j, is, h => ⟨fun e => ⟨e, fun i h1 h2 => by omega⟩, fun e => e.1⟩
  | f + 1, j, is, h => by
    simp only [qeqs]
    by_cases h0 : is = 0
    · rw [if_pos h0]
      exact ⟨fun e => absurd e (by decide), fun e => by omega⟩
    · rw [if_neg h0, qeqs_1 a b f (j + 1) _ (qb_r _), qb_1]
      refine ⟨fun e => ⟨by omega, fun i h1 h2 => ?_⟩, fun e => ⟨e.2 j (by omega) (by omega), fun i h1 h2 => e.2 i (by omega) (by omega)⟩⟩
      by_cases hi : i = j
      · rw [hi]; exact e.1
      · exact e.2 i (by omega) (by omega)
/-- the parts of the letters at hand -/
def qfp (nd dg n : Int) (dm dv en its : Int → Int) : Nat → Int → Int → Int
  | 0, _, p => p
  | f + 1, k, p => if k < nd ∧ dg = 0 then qfp nd dg n dm dv en its f (k + 1) (if qeqs (fun j => dv (10 * k + j)) its n.toNat 0 (qb (dm k = n)) = 0 then p else en k) else p
theorem r_fpIn (d : Nat) (T : zS) (hK : qK T) (k n : Int) (hn : 0 ≤ n ∧ n ≤ 10) (hk : 0 ≤ k ∧ k < 12) (p1 : zm T 37 13 = 46) (p2 : zm T 37 35 = 64) (p3 : zm T 37 36 = n) : ∀ (f : Nat) (j is : Int), 0 ≤ j → j + f = n → (0 ≤ is ∧ is ≤ 1) →
    ∃ x : zV, zF_207 d 43 [vr 37, vi k, vi is, vi j] [] T = zF_207 d 87 [vr 37, vi k, vi (qeqs (fun j => zm T 46 (10 * k + j)) (zm T 64) f j is), x] [] T := by
  intro f
  induction f with
  | zero =>
    intro j is h0 h1 h2
    rw [b207_43]
    simp (config := { maxSteps := 2000000 }) (disch := first | omega | (simp only [K_37 hK, qb_in, qkW, qmW, qnW, true_and, and_true, or_self, true_or, or_true, and_self]; done) | (simp only [K_37 hK, qb_in, qkW, qmW, qnW, true_and, and_true, or_self, true_or, or_true, and_self]; omega)) only [b207_0, b207_15, m207_22, b207_35, b207_39, b207_40, b207_51, b207_55, m207_70, b207_75, b207_79, b207_80, b207_92, b207_101, b207_105, b207_114, qcall_l, qcall_r, qretn_l, qJ_s, qJ_n, qV0, qEx, ↓qif0, ↓zchk_pos, ↓reduceIte, qput, qWW, qmW, qkW, qnW, K_37 hK, p3, if_neg (show ¬ j < n by omega), qeqs]
    exact ⟨_, rfl⟩
  | succ f ih =>
    intro j is h0 h1 h2
    rw [b207_43]
    simp only [qeqs]
    by_cases hi : is = 0
    · rw [if_pos hi, hi]
      simp (config := { maxSteps := 2000000 }) (disch := first | omega | (simp only [K_37 hK, qb_in, qkW, qmW, qnW, true_and, and_true, or_self, true_or, or_true, and_self]; done) | (simp only [K_37 hK, qb_in, qkW, qmW, qnW, true_and, and_true, or_self, true_or, or_true, and_self]; omega)) only [b207_0, b207_15, m207_22, b207_35, b207_39, b207_40, b207_51, b207_55, m207_70, b207_75, b207_79, b207_80, b207_92, b207_101, b207_105, b207_114, qcall_l, qcall_r, qretn_l, qJ_s, qJ_n, qV0, qEx, ↓qif0, ↓zchk_pos, ↓reduceIte, qput, qWW, qmW, qkW, qnW, K_37 hK, p3, if_pos (show j < n by omega)]
      exact ⟨_, rfl⟩
    · obtain ⟨x, hx⟩ := ih (j + 1) (qb (zm T 46 (10 * k + j) = zm T 64 j)) (by omega) (by omega) (qb_r _)
      refine ⟨x, ?_⟩
      rw [if_neg hi]
      simp (config := { maxSteps := 2000000 }) (disch := first | omega | (simp only [K_37 hK, K_46 hK, K_64 hK, p1, p2, p3, q32, qb_in, qkW, qmW, qnW, true_and, and_true, or_self, true_or, or_true, and_self]; done) | (simp only [K_37 hK, K_46 hK, K_64 hK, p1, p2, p3, q32, qb_in, qkW, qmW, qnW, true_and, and_true, or_self, true_or, or_true, and_self]; omega)) only [b207_0, b207_15, m207_22, b207_35, b207_39, b207_40, b207_51, b207_55, m207_70, b207_75, b207_79, b207_80, b207_92, b207_101, b207_105, b207_114, qcall_l, qcall_r, qretn_l, qJ_s, qJ_n, qV0, qEx, ↓qif0, ↓zchk_pos, ↓reduceIte, qput, qWW, qmW, qkW, qnW, K_37 hK, p1, p2, p3, if_pos (show j < n by omega), if_neg hi, q32, hx]
theorem r_fpLoop (d : Nat) (S : zS) (hK : qK S) (nd dg n : Int) (dm dv en its : Int → Int) (hn : 0 ≤ n ∧ n ≤ 10) (hnd : nd ≤ 12) : ∀ (f : Nat) (k p : Int) (m : Int → Int → Int) (x2 x3 : zV), 0 ≤ k → nd - k < f → k ≤ nd →
    (∀ j, j ≠ 38 → m 37 j = zm S 37 j) → (∀ a, a ≠ 37 → m a = zm S a) → m 37 38 = p → zm S 37 12 = nd → zm S 37 33 = dg → zm S 37 36 = n → zm S 37 13 = 46 → zm S 37 35 = 64 → zm S 37 14 = 47 → zm S 37 15 = 48 → zm S 47 = dm → zm S 46 = dv → zm S 48 = en → zm S 64 = its →
    zF_207 d 7 [vr 37, vi k, x2, x3] [] (qW S m) = some (.inl none, qW S (qu m 37 38 (qfp nd dg n dm dv en its f k p))) := by
  intro f
  induction f with
  | zero => intro k p m x2 x3 h0 h1 h2; omega
  | succ f ih =>
    intro k p m x2 x3 h0 h1 h2 hm ho hp a1 a2 a3 a4 a5 a6 a7 a8 a9 a10 a11
    have c1 : m 37 12 = nd := (hm 12 (by decide)).trans a1
    have c2 : m 37 33 = dg := (hm 33 (by decide)).trans a2
    have c3 : m 37 36 = n := (hm 36 (by decide)).trans a3
    have c4 : m 37 13 = 46 := (hm 13 (by decide)).trans a4
    have c5 : m 37 35 = 64 := (hm 35 (by decide)).trans a5
    have c6 : m 37 14 = 47 := (hm 14 (by decide)).trans a6
    have c7 : m 37 15 = 48 := (hm 15 (by decide)).trans a7
    have c8 : m 47 = dm := (ho 47 (by decide)).trans a8
    have c9 : m 46 = dv := (ho 46 (by decide)).trans a9
    have c10 : m 48 = en := (ho 48 (by decide)).trans a10
    have c11 : m 64 = its := (ho 64 (by decide)).trans a11
    have same : qu m 37 38 p = m := by
      funext x i
      unfold qu
      by_cases hx : x = 37
      · by_cases hi : i = 38
        · rw [if_pos hx, if_pos hi, hx, hi, hp]
        · rw [if_pos hx, if_neg hi]
      · rw [if_neg hx]
    rw [b207_7]
    by_cases h3 : k < nd
    · by_cases h4 : dg = 0
      · have hq : qfp nd dg n dm dv en its (f + 1) k p = _ := if_pos ⟨h3, h4⟩
        rw [hq]
        obtain ⟨x, hx⟩ := r_fpIn d (qW S m) hK k n hn (by omega) c4 c5 c3 n.toNat 0 (qb (dm k = n)) (by omega) (by omega) (qb_r _)
        simp only [qmW, c9, c11] at hx
        have hi2 := ih (k + 1) (if qeqs (fun j => dv (10 * k + j)) its n.toNat 0 (qb (dm k = n)) = 0 then p else en k) (qu m 37 38 (if qeqs (fun j => dv (10 * k + j)) its n.toNat 0 (qb (dm k = n)) = 0 then p else en k))
        have f1 : ∀ v, qu (qu m 37 38 v) 37 38 (qfp nd dg n dm dv en its f (k + 1) v) = qu m 37 38 (qfp nd dg n dm dv en its f (k + 1) v) := fun v => by
          funext x i
          unfold qu
          by_cases hx : x = 37
          · by_cases hi : i = 38
            · rw [if_pos hx, if_pos hi, if_pos hx, if_pos hi]
            · rw [if_pos hx, if_neg hi, if_pos hx, if_neg hi, if_pos hx, if_neg hi]
          · rw [if_neg hx, if_neg hx, if_neg hx]
        simp (config := { maxSteps := 2000000 }) (disch := first | omega | (simp only [K_37 hK, K_47 hK, c6, qmW, qb_in, qkW, qmW, qnW, true_and, and_true, or_self, true_or, or_true, and_self]; done) | (simp only [K_37 hK, K_47 hK, c6, qmW, qb_in, qkW, qmW, qnW, true_and, and_true, or_self, true_or, or_true, and_self]; omega)) only [b207_0, b207_15, m207_22, b207_35, b207_39, b207_40, b207_51, b207_55, m207_70, b207_75, b207_79, b207_80, b207_87, b207_92, b207_101, b207_105, b207_114, qcall_l, qcall_r, qretn_l, qJ_s, qJ_n, qV0, qEx, ↓qif0, ↓zchk_pos, ↓reduceIte, qput, qWW, qmW, qkW, qnW, K_37 hK, c1, c2, c3, c6, c8, if_pos h3, if_pos h4, hx]
        generalize qeqs (fun j => dv (10 * k + j)) its n.toNat 0 (qb (dm k = n)) = is at hi2 ⊢
        by_cases h5 : is = 0
        · rw [if_pos h5] at hi2 ⊢
          rw [if_pos h5]
          simp (config := { maxSteps := 2000000 }) (disch := first | omega | (simp only [K_37 hK, qmW, qb_in, qkW, qmW, qnW, true_and, and_true, or_self, true_or, or_true, and_self]; done) | (simp only [K_37 hK, qmW, qb_in, qkW, qmW, qnW, true_and, and_true, or_self, true_or, or_true, and_self]; omega)) only [b207_0, b207_15, m207_22, b207_35, b207_39, b207_40, b207_51, b207_55, m207_70, b207_75, b207_79, b207_80, b207_87, b207_92, b207_101, b207_105, b207_114, qcall_l, qcall_r, qretn_l, qJ_s, qJ_n, qV0, qEx, ↓qif0, ↓zchk_pos, ↓reduceIte, qput, qWW, qmW, qkW, qnW, K_37 hK, hp, q32]
          rw [hi2 _ _ (by omega) (by omega) (by omega) (fun j hj => (qu_i m 37 38 _ j hj).trans (hm j hj)) (fun a ha => (qu_o m 37 38 _ a ha).trans (ho a ha)) (qu_s m 37 38 _) a1 a2 a3 a4 a5 a6 a7 a8 a9 a10 a11, f1]
        · rw [if_neg h5] at hi2 ⊢
          rw [if_neg h5]
          simp (config := { maxSteps := 2000000 }) (disch := first | omega | (simp only [K_37 hK, qmW, c7, K_48 hK, qb_in, qkW, qmW, qnW, true_and, and_true, or_self, true_or, or_true, and_self]; done) | (simp only [K_37 hK, qmW, c7, K_48 hK, qb_in, qkW, qmW, qnW, true_and, and_true, or_self, true_or, or_true, and_self]; omega)) only [b207_0, b207_15, m207_22, b207_35, b207_39, b207_40, b207_51, b207_55, m207_70, b207_75, b207_79, b207_80, b207_87, b207_92, b207_101, b207_105, b207_114, qcall_l, qcall_r, qretn_l, qJ_s, qJ_n, qV0, qEx, ↓qif0, ↓zchk_pos, ↓reduceIte, qput, qWW, qmW, qkW, qnW, K_37 hK, c7, c10, q32]
          rw [hi2 _ _ (by omega) (by omega) (by omega) (fun j hj => (qu_i m 37 38 _ j hj).trans (hm j hj)) (fun a ha => (qu_o m 37 38 _ a ha).trans (ho a ha)) (qu_s m 37 38 _) a1 a2 a3 a4 a5 a6 a7 a8 a9 a10 a11, f1]
      · have hq : qfp nd dg n dm dv en its (f + 1) k p = _ := if_neg fun g => h4 g.2
        rw [hq]
        simp (config := { maxSteps := 2000000 }) (disch := first | omega | (simp only [K_37 hK, qb_in, qkW, qmW, qnW, true_and, and_true, or_self, true_or, or_true, and_self]; done) | (simp only [K_37 hK, qb_in, qkW, qmW, qnW, true_and, and_true, or_self, true_or, or_true, and_self]; omega)) only [b207_0, b207_15, m207_22, b207_35, b207_39, b207_40, b207_51, b207_55, m207_70, b207_75, b207_79, b207_80, b207_87, b207_92, b207_101, b207_105, b207_114, qcall_l, qcall_r, qretn_l, qJ_s, qJ_n, qV0, qEx, ↓qif0, ↓zchk_pos, ↓reduceIte, qput, qWW, qmW, qkW, qnW, K_37 hK, c1, c2, if_pos h3, if_neg h4]
        rw [same]
    · have hq : qfp nd dg n dm dv en its (f + 1) k p = _ := if_neg fun g => h3 g.1
      rw [hq]
      simp (config := { maxSteps := 2000000 }) (disch := first | omega | (simp only [K_37 hK, qb_in, qkW, qmW, qnW, true_and, and_true, or_self, true_or, or_true, and_self]; done) | (simp only [K_37 hK, qb_in, qkW, qmW, qnW, true_and, and_true, or_self, true_or, or_true, and_self]; omega)) only [b207_0, b207_15, m207_22, b207_35, b207_39, b207_40, b207_51, b207_55, m207_70, b207_75, b207_79, b207_80, b207_87, b207_92, b207_101, b207_105, b207_114, qcall_l, qcall_r, qretn_l, qJ_s, qJ_n, qV0, qEx, ↓qif0, ↓zchk_pos, ↓reduceIte, qput, qWW, qmW, qkW, qnW, K_37 hK, c1, if_neg h3]
      rw [same]
