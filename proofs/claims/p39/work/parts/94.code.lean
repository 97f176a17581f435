/-! A code is told: both answer alike. -/
/-- the script and the first kinds stay -/
def qKs (S S1 : zS) : Prop := zm S1 1 = zm S 1 ∧ ∀ x : Int, x < 103 → zk S1 x = zk S x
def qAskN (Q Qx : zS → Prop) (S : zS) (R : zR) (F : zS → zR) (ps : Nat → Int) : Prop :=
  (∃ v S1, R = some (.inl (some (vi v)), S1) ∧ qKs S S1 ∧ ∀ o : Int, ∃ S2, F (qo S1 o) = some (.inl (some (vi v)), S2) ∧ zm S2 37 0 = 0 ∧ zm S2 102 0 = o ∧ Q S2) ∨
  ∃ x v S1 S2, R = some (.inr x, S1) ∧ qKs S S1 ∧ F S1 = some (.inl (some (vi v)), S2) ∧ zm S2 37 0 = ps x ∧ ps x ≠ 0 ∧ Qx S2
def qpsK (x : Nat) : Int := if x = 1 then 1 else 0
/-- how much has come, and what else is changed -/
def qGw (S S2 : zS) (n c w : Nat) (E : Int → Int → Prop) : Prop := (zn S2 : Int) = zn S + n ∧ zc S2 = zc S + c ∧ zw S2 = zw S + w ∧ (∀ x : Int, x < zn S → zk S2 x = zk S x) ∧ ∀ x j : Int, x < zn S → ¬ E x j → zm S2 x j = zm S x j
theorem qK_g {S S' : zS} (h : qK S) (hn : 103 ≤ (zn S : Int)) (g : ∀ x : Int, x < zn S → zk S' x = zk S x) : qK S' := fun q hq => by
  rw [g q.1 ?_]
  · exact h q hq
  · have : q.1 ≤ 102 := by
      revert q
      decide
    omega
theorem q_code (d : Nat) (S : zS) (h : 5 ≤ d) (hK : qK S) (hP : qP (zm S)) (hC : qRC S) (hn : 103 ≤ (zn S : Int)) :
    qAskN (fun S2 => qRC S2 ∧ qGw S S2 5 5 61 fun x j => x = 102 ∨ x = 3 ∧ j = 2 ∨ x = 6 ∨ x = 37 ∧ (j = 0 ∨ j = 4)) (fun S2 => ∃ m2, S2 = zbump (qW S m2) ∧ qFq S m2) S (zD d 118 [vr 3] S) (zD d 208 [vr 37]) qpsK := by
  obtain ⟨e, rfl, h1⟩ := qd h
  have hCy : ∀ i, 0 ≤ i → i < zm S 37 4 → qCy S (zm S 6 i) (zm S 39 i) (qTm (zm S) i) := hC.2.2.1
  obtain ⟨r1, r2, r3, r4, r5⟩ := hC
  by_cases c3 : zm S 37 4 < 3
  · -- one more
    obtain ⟨S', r, n1, z1, w1, k1, m1⟩ := s_codeInit e (zalloc S 22 0 4) (zn S) (zn S + 1) (by omega) (qal_e _ _ _ _ rfl) (by omega) (qal_n _ _ _ _)
    generalize hN : (zn S : Int) = N at *
    generalize hc : zm S 37 4 = c at *
    have hm : ∀ x, x < N → zm S' x = zm S x := fun x hx => by
      rw [m1, qu_o _ _ _ _ _ (by omega), qu_o _ _ _ _ _ (by omega), qz_o _ (by omega), qz_o _ (by omega), qu_o _ _ _ _ _ (by omega), qz_o _ (by omega), qu_o _ _ _ _ _ (by omega), qz_o _ (by omega), qal_m, qz_o _ (by omega)]
    have hk : ∀ x, x < N → zk S' x = zk S x := fun x hx => by
      rw [k1, if_neg (by omega), if_neg (by omega), if_neg (by omega), if_neg (by omega), qal_o _ _ _ _ (by omega)]
    have hkN : zk S' N = (22, 0) := by
      rw [k1, if_neg (by omega), if_neg (by omega), if_neg (by omega), if_neg (by omega), qal_e _ _ _ _ hN.symm]
    have hK' : qK S' := qK_g hK (by omega) (by rw [hN]; exact hk)
    have e3 : zm S' 3 = zm S 3 := hm 3 (by omega)
    have e31 : zm S' 3 1 = 6 := by rw [e3]; exact P_3_1 hP
    have e32 : zm S' 3 2 = c := by rw [e3]; exact r1
    have x3 : qu (zm S') 6 c N 3 = zm S' 3 := qu_o _ _ _ _ _ (by decide)
    have s32 : qu (qu (zm S') 6 c N) 3 2 (c + 1) 3 2 = c + 1 := qu_s _ _ _ _
    have cls : zD (e + 1) 118 [vr 3] S = some (.inl (some (vi c)), qW S' (qu (qu (zm S') 6 c N) 3 2 (c + 1))) := by
      simp (config := { maxSteps := 2000000 }) (disch := first | omega | (simp only [K_3 hK, K_3 hK', K_6 hK', hN, hkN, e31, e32, x3, qb_in, qkW, qmW, qnW, true_and, and_true, or_self, true_or, or_true, and_self]; done) | (simp only [K_3 hK, K_3 hK', K_6 hK', hN, hkN, e31, e32, x3, qb_in, qkW, qmW, qnW, true_and, and_true, or_self, true_or, or_true, and_self]; omega)) only [zD_118, b118_0, b118_8, b118_18, b118_33, b118_49, qcall_l, qcall_r, qretn_l, qJ_s, qJ_n, qV0, qEx, ↓qif0, ↓zchk_pos, ↓reduceIte, qput, qWW, qmW, qkW, qnW, K_3 hK, K_6 hK', P_3_1 hP, r1, if_pos c3, r, hN, e31, e32, x3, s32, hkN, q32, show c + 1 - 1 = c by omega]
    generalize hM : qu (qu (zm S') 6 c N) 3 2 (c + 1) = M at cls
    refine Or.inl ⟨c, qW S' M, cls, ⟨by show M 1 = _; rw [← hM, qu_o _ _ _ _ _ (by decide), qu_o _ _ _ _ _ (by decide), hm 1 (by omega)], fun x hx => by rw [qkW]; exact hk x (by omega)⟩, fun o => ?_⟩
    obtain ⟨M9, hM9⟩ : ∃ M9, qu M 102 0 o = M9 := ⟨_, rfl⟩
    have hq9 : qo (qW S' M) o = qW S' M9 := by rw [← hM9]; rfl
    rw [hq9]
    have g9 : ∀ x, x ≠ 102 → M9 x = M x := fun x hx => by rw [← hM9, qu_o _ _ _ _ _ hx]
    have hMo : ∀ x, x ≠ 3 → x ≠ 6 ∧ x ≠ 102 → M9 x = zm S' x := fun x x1 x2 => by rw [g9 x x2.2, ← hM, qu_o _ _ _ _ _ x1, qu_o _ _ _ _ _ x2.1]
    have M37 : M9 37 = zm S 37 := by rw [hMo 37 (by decide) (by decide), hm 37 (by omega)]
    have hd := r_holds e (qW S' M9) 0 (by omega) hK'
    rw [qb_p rfl] at hd
    have hd : zD e 182 [vr 37, vi 0] (qW S' M9) = some (.inl (some (vi 1)), qW S' (qu M9 37 0 0)) := hd
    have M374 : M9 37 4 = c := by rw [M37, hc]
    have q374 : qu M9 37 0 0 37 4 = c := by rw [qu_i _ _ _ _ _ (by decide), M374]
    have ref : zD (e + 1) 208 [vr 37] (qW S' M9) = some (.inl (some (vi c)), qW S' (qu (qu M9 37 0 0) 37 4 (c + 1))) := by
      simp (config := { maxSteps := 2000000 }) (disch := first | omega | (simp only [K_37 hK', M374, q374, qb_in, qkW, qmW, qnW, true_and, and_true, or_self, true_or, or_true, and_self]; done) | (simp only [K_37 hK', M374, q374, qb_in, qkW, qmW, qnW, true_and, and_true, or_self, true_or, or_true, and_self]; omega)) only [zD_208, b208_0, b208_9, b208_13, b208_14, b208_17, b208_20, b208_22, b208_38, qcall_l, qcall_r, qretn_l, qJ_s, qJ_n, qV0, qEx, ↓qif0, ↓zchk_pos, ↓reduceIte, qput, qWW, qmW, qkW, qnW, K_37 hK', M374, if_neg (show ¬ c = 3 by omega), hd, q374, qu_s, q32, Int.reduceEq, show c + 1 - 1 = c by omega]
    generalize hm2 : qu (qu M9 37 0 0) 37 4 (c + 1) = m2 at ref
    have f37 : ∀ j, j ≠ 0 → j ≠ 4 → m2 37 j = zm S 37 j := fun j j0 j4 => by rw [← hm2, qu_i _ _ _ _ _ j4, qu_i _ _ _ _ _ j0, M37]
    have fo : ∀ x, x ≠ 37 → m2 x = M9 x := fun x x1 => by rw [← hm2, qu_o _ _ _ _ _ x1, qu_o _ _ _ _ _ x1]
    have fz : ∀ x, x < N → x ≠ 3 → x ≠ 6 ∧ x ≠ 102 → x ≠ 37 → m2 x = zm S x := fun x x0 x3 x6 x37 => by rw [fo x x37, hMo x x3 x6, hm x x0]
    have fz' : ∀ x, x ≠ 3 → x ≠ 6 ∧ x ≠ 102 → x ≠ 37 → m2 x = zm S' x := fun x x3 x6 x37 => by rw [fo x x37, hMo x x3 x6]
    have g374 : m2 37 4 = c + 1 := by rw [← hm2, qu_s]
    have g370 : m2 37 0 = 0 := by rw [← hm2, qu_i _ _ _ _ _ (by decide), qu_s]
    have g32 : m2 3 2 = c + 1 := by rw [fo 3 (by decide), g9 3 (by decide), ← hM, qu_s]
    have g6 : ∀ i, m2 6 i = if i = c then N else zm S 6 i := fun i => by
      rw [fo 6 (by decide), g9 6 (by decide), ← hM, qu_o _ _ _ _ _ (by decide), qu_row, hm 6 (by omega)]
    have g39 : m2 39 = zm S 39 := fz 39 (by omega) (by decide) (by decide) (by decide)
    have gT : ∀ i, qTm m2 i = qTm (zm S) i := fun i => qTm_e (fun x x1 x2 => fz x (by omega) (by omega) (by omega) (by omega)) i
    have gr : qGr S (qW S' m2) := ⟨by show zn S ≤ zn S'; omega, fun x hx => by rw [qkW]; exact hk x (by omega), fun x x1 x2 => by rw [qmW]; exact fz x (by omega) (by omega) (by omega) (by omega)⟩
    have hd0 : ∀ i, 0 ≤ i → i < c → zm S 6 i + 5 ≤ N ∧ 103 ≤ zm S 6 i := fun i i1 i2 => by
      obtain ⟨-, -, -, -, -, -, -, -, -, b1, b2⟩ := (r3 i i1 i2).1
      omega
    refine ⟨qW S' m2, ref, g370, by show m2 102 0 = o; rw [fo 102 (by decide), ← hM9, qu_s], ⟨?_, ?_, fun i i1 i2 => ?_, fun i k i1 i2 k2 => ?_, fun i i1 i2 => ?_⟩, ?_, ?_, ?_, fun x hx => ?_, fun x j hx he => ?_⟩
    · show m2 3 2 = m2 37 4
      rw [g32, g374]
    · show 0 ≤ m2 37 4 ∧ m2 37 4 ≤ 3
      omega
    · have i2 : i < m2 37 4 := i2
      show qCy (qW S' m2) (m2 6 i) (m2 39 i) (qTm m2 i)
      rw [g6, g39, gT]
      by_cases q : i = c
      · have z39 : zm S 39 i = 0 := r5 i (by omega) (by omega)
        rw [if_pos q, z39]
        have mN : m2 N = zm S' N := fz' N (by omega) (by omega) (by omega)
        refine ⟨⟨hkN, ?_, ?_, ?_, ?_, ?_, ?_, ?_, ?_, hn, ?_⟩, ⟨hkN, ?_, ?_, by decide, fun k k1 k2 => by omega⟩, fun k k1 k2 => by omega, fun k k1 k2 => by omega⟩
        · show zk S' (N + 1) = _
          rw [k1, if_neg (by omega), if_neg (by omega), if_neg (by omega), if_pos rfl]
        · show zk S' (N + 2) = _
          rw [k1, if_neg (by omega), if_neg (by omega), if_pos (by omega)]
        · show zk S' (N + 3) = _
          rw [k1, if_neg (by omega), if_pos (by omega)]
        · show zk S' (N + 4) = _
          rw [k1, if_pos (by omega)]
        · show m2 N 0 = _
          rw [mN, m1]
          rw [qu_i _ _ _ _ _ (by decide), qu_o _ _ _ _ _ (by omega), qz_o _ (by omega), qz_o _ (by omega), qu_i _ _ _ _ _ (by decide), qz_o _ (by omega), qu_s]
        · show m2 N 2 = _
          rw [mN, m1]
          rw [qu_i _ _ _ _ _ (by decide), qu_o _ _ _ _ _ (by omega), qz_o _ (by omega), qz_o _ (by omega), qu_s]
          omega
        · show m2 N 3 = _
          rw [mN, m1]
          rw [qu_s]
          omega
        · show m2 (N + 3) 0 = _
          rw [fz' (N + 3) (by omega) (by omega) (by omega), m1, show N + 3 = N + 1 + 2 by omega, qu_o _ _ _ _ _ (by omega), qu_s]
          omega
        · show N + 5 ≤ (zn S' : Int)
          omega
        · show zk S' (m2 N 0) = _
          have e0 : m2 N 0 = N + 1 := by
            rw [mN, m1]
            rw [qu_i _ _ _ _ _ (by decide), qu_o _ _ _ _ _ (by omega), qz_o _ (by omega), qz_o _ (by omega), qu_i _ _ _ _ _ (by decide), qz_o _ (by omega), qu_s]
          rw [e0, k1, if_neg (by omega), if_neg (by omega), if_neg (by omega), if_pos rfl]
        · show m2 N 1 = 0
          rw [mN, m1]
          rw [qu_i _ _ _ _ _ (by decide), qu_o _ _ _ _ _ (by omega), qz_o _ (by omega), qz_o _ (by omega), qu_i _ _ _ _ _ (by decide), qz_o _ (by omega), qu_i _ _ _ _ _ (by decide), qz_o _ (by omega), qal_m, hN, qz_s]
      · rw [if_neg q]
        exact qCy_g (hCy i i1 (by omega)) gr
    · have k2 : k < m2 37 4 := k2
      show m2 6 i ≠ m2 6 k
      rw [g6, g6]
      by_cases q : k = c
      · rw [if_pos q, if_neg (by omega)]
        have := hd0 i i1 (by omega)
        omega
      · rw [if_neg q, if_neg (by omega)]
        exact r4 i k i1 i2 (by omega)
    · have i1 : m2 37 4 ≤ i := i1
      show m2 39 i = 0
      rw [g39]
      exact r5 i (by omega) i2
    · show (zn S' : Int) = (zn S : Int) + (5 : Nat)
      omega
    · show zc S' = zc S + 5
      rw [z1]
      rfl
    · show zw S' = zw S + 61
      rw [w1]
      rfl
    · rw [qkW]
      exact hk x (by omega)
    · show m2 x j = zm S x j
      by_cases c37 : x = 37
      · subst c37
        exact f37 j (by omega) (by omega)
      · by_cases c33 : x = 3
        · subst c33
          rw [fo 3 (by decide), g9 3 (by decide), ← hM, qu_i _ _ _ _ _ (by omega), x3, e3]
        · rw [fz x (by omega) c33 (by omega) c37]
  · have hd := r_holds e (zbump S) 1 (by omega) hK
    rw [qb_n (by decide)] at hd
    have hKb : qK (zbump S) := hK
    have g4 : zm (zbump S) 37 4 = zm S 37 4 := rfl
    refine Or.inr ⟨1, 0, zbump S, zbump (qW S (qu (zm S) 37 0 1)), ?_, ⟨rfl, fun _ _ => rfl⟩, ?_, by show qu (zm S) 37 0 1 37 0 = 1; exact qu_s _ _ _ _, by decide, _, rfl, qFq_37x (qFq_r S) (qfr_j (A := []) (J := [0]) _ _ _ (by decide)) (by decide) (by decide)⟩
    · simp (config := { maxSteps := 2000000 }) (disch := first | omega | (simp only [K_3 hK, qb_in, qkW, qmW, qnW, true_and, and_true, or_self, true_or, or_true, and_self]; done) | (simp only [K_3 hK, qb_in, qkW, qmW, qnW, true_and, and_true, or_self, true_or, or_true, and_self]; omega)) only [zD_118, b118_0, b118_8, b118_18, b118_33, b118_49, qcall_l, qcall_r, qretn_l, qJ_s, qJ_n, qV0, qEx, ↓qif0, ↓zchk_pos, ↓reduceIte, qput, qWW, qmW, qkW, qnW, K_3 hK, r1, if_neg c3]
    · simp (config := { maxSteps := 2000000 }) (disch := first | omega | (simp only [K_37 hKb, g4, qb_in, qkW, qmW, qnW, true_and, and_true, or_self, true_or, or_true, and_self]; done) | (simp only [K_37 hKb, g4, qb_in, qkW, qmW, qnW, true_and, and_true, or_self, true_or, or_true, and_self]; omega)) only [zD_208, b208_0, b208_9, b208_13, b208_14, b208_17, b208_20, b208_22, b208_38, qcall_l, qcall_r, qretn_l, qJ_s, qJ_n, qV0, qEx, ↓qif0, ↓zchk_pos, ↓reduceIte, qput, qWW, qmW, qkW, qnW, K_37 hKb, g4, if_pos (show zm S 37 4 = 3 by omega), hd, Int.reduceEq]
      rfl
