/-! Divided words: both find the same. -/
def qMt (n : Int) (dm dv its : Int → Int) (k : Int) : Prop := dm k = n ∧ ∀ j, 0 ≤ j → j < n → dv (10 * k + j) = its j
theorem qfp_m (n : Int) (hn : 0 ≤ n) (dm dv its : Int → Int) (k : Int) : qeqs (fun j => dv (10 * k + j)) its n.toNat 0 (qb (dm k = n)) = 0 ↔ ¬ qMt n dm dv its k := by
  have h1 := qeqs_1 (fun j => dv (10 * k + j)) its n.toNat 0 (qb (dm k = n)) (qb_r _)
  have h2 := qeqs_r (fun j => dv (10 * k + j)) its n.toNat 0 (qb (dm k = n)) (qb_r _)
  rw [qb_1] at h1
  have h3 : qeqs (fun j => dv (10 * k + j)) its n.toNat 0 (qb (dm k = n)) = 1 ↔ qMt n dm dv its k := h1.trans ⟨fun h => ⟨h.1, fun j j1 j2 => h.2 j j1 (by omega)⟩, fun h => ⟨h.1, fun j j1 j2 => h.2 j j1 (by omega)⟩⟩
  rw [← h3]
  omega
theorem qfp_n (nd n : Int) (hn : 0 ≤ n) (dm dv en its : Int → Int) : ∀ (f : Nat) (k p : Int), nd - k ≤ f → (∀ i, k ≤ i → i < nd → ¬ qMt n dm dv its i) → qfp nd 0 n dm dv en its f k p = p := by
  intro f
  induction f with
  | zero => intro k p _ _; rfl
  | succ f ih =>
    intro k p h1 h2
    rw [qfp]
    by_cases c : k < nd ∧ (0 : Int) = 0
    · rw [if_pos c, if_pos ((qfp_m n hn dm dv its k).mpr (h2 k (by omega) c.1))]
      exact ih (k + 1) p (by omega) fun i i1 i2 => h2 i (by omega) i2
    · rw [if_neg c]
theorem qfp_y (nd n : Int) (hn : 0 ≤ n) (dm dv en its : Int → Int) (x : Int) (hx : x < nd) (hM : qMt n dm dv its x) (hu : ∀ i, x < i → i < nd → ¬ qMt n dm dv its i) : ∀ (f : Nat) (k p : Int), k ≤ x → nd - k ≤ f → qfp nd 0 n dm dv en its f k p = en x := by
  intro f
  induction f with
  | zero => intro k p h1 h2; omega
  | succ f ih =>
    intro k p h1 h2
    rw [qfp, if_pos (show k < nd ∧ (0 : Int) = 0 from ⟨by omega, rfl⟩)]
    by_cases c : k = x
    · subst c
      rw [if_neg fun q => (qfp_m n hn dm dv its k).mp q hM]
      exact qfp_n nd n hn dm dv en its f (k + 1) _ (by omega) fun i i1 i2 => hu i (by omega) i2
    · exact ih (k + 1) _ (by omega) (by omega)
theorem qfp_d (nd n : Int) (dm dv en its : Int → Int) (f : Nat) (k p : Int) : qfp nd 1 n dm dv en its f k p = p := by
  cases f with
  | zero => rfl
  | succ f =>
    rw [qfp, if_neg fun q => absurd q.2 (by decide)]
/-- the parts of letters -/
def qPw (m : Int → Int → Int) (W : List Int) (dg : Int) : Int := qfp (m 37 12) dg W.length (m 47) (m 46) (m 48) (fun j => qnth W j + 97) ((m 37 12).toNat + 1) 0 0
theorem qfp_c (nd dg n : Int) (hn : 0 ≤ n) (dm dv en its its' : Int → Int) (h : dg = 0 → ∀ j, 0 ≤ j → j < n → its j = its' j) : ∀ (f : Nat) (k p : Int), qfp nd dg n dm dv en its f k p = qfp nd dg n dm dv en its' f k p := by
  intro f
  induction f with
  | zero => intro k p; rfl
  | succ f ih =>
    intro k p
    rw [qfp, qfp]
    by_cases c : k < nd ∧ dg = 0
    · rw [if_pos c, if_pos c]
      have e : qMt n dm dv its k ↔ qMt n dm dv its' k := ⟨fun z => ⟨z.1, fun j j1 j2 => by rw [z.2 j j1 j2, h c.2 j j1 j2]⟩, fun z => ⟨z.1, fun j j1 j2 => by rw [z.2 j j1 j2, h c.2 j j1 j2]⟩⟩
      by_cases q : qMt n dm dv its k
      · rw [if_neg fun y => (qfp_m n hn dm dv its k).mp y q, if_neg fun y => (qfp_m n hn dm dv its' k).mp y (e.mp q)]
        exact ih _ _
      · rw [if_pos ((qfp_m n hn dm dv its k).mpr q), if_pos ((qfp_m n hn dm dv its' k).mpr fun y => q (e.mpr y))]
        exact ih _ _
    · rw [if_neg c, if_neg c]
def qDb (S : zS) (a : Int) : Prop := zk S a = (25, 0) ∧ zk S (a + 1) = (0, 10) ∧ zk S (a + 2) = (0, 4) ∧ zm S a 0 = a + 1 ∧ zm S a 2 = a + 2 ∧ 103 ≤ a ∧ a + 3 ≤ zn S
/-- the divided words of both -/
def qRD (S : zS) : Prop := zm S 3 4 = zm S 37 12 ∧ (0 ≤ zm S 37 12 ∧ zm S 37 12 ≤ 12) ∧ (∀ k, 0 ≤ k → k < zm S 37 12 → qDb S (zm S 7 k) ∧ qDv S (zm S 7 k) (zm S 48 k) (zm S 47 k) ∧ (0 < zm S 47 k ∧ zm S 47 k ≤ 10) ∧ (∀ j, 0 ≤ j → j < zm S 47 k → zm S 46 (10 * k + j) = zm S (zm S 7 k + 1) j + 97) ∧ (qpl (zm S 48 k) (zm S 47 k) (zm S 47 k).toNat).length ≤ 4) ∧
  ∀ i k, 0 ≤ i → i < k → k < zm S 37 12 → ¬ (zm S 47 i = zm S 47 k ∧ ∀ j, 0 ≤ j → j < zm S 47 i → zm S 46 (10 * i + j) = zm S 46 (10 * k + j))
theorem qpl_z (n : Nat) (h : 0 < n) : qpl 0 n n = [(n : Int)] := by
  have := qpl_j 0 n 0 n (by omega) fun i i1 i2 => ⟨qbt_0 i, by omega⟩
  rw [show ((n : Int)).toNat = n by omega, if_pos (Or.inr rfl)] at this
  exact this
theorem s_divisionOf (d : Nat) (S : zS) (x : Int) (W : List Int) (h : 2 ≤ d) (hK : qK S) (hP : qP (zm S)) (hR : qRD S) (kx : zk S x = (0, 10)) (hA : qA (zm S) x W) (hW : 0 < W.length ∧ W.length ≤ 10) :
    ∃ D, zD d 163 [vr 3, vr x, vi W.length] S = some (.inl (some (vr D)), S) ∧ qDo S D (qPw (zm S) W 0) W.length ∧ (D ≠ 0 → qDb S D) ∧ (qpl (qPw (zm S) W 0) W.length W.length).length ≤ 4 ∧ ((D = 0) = (qPw (zm S) W 0 = 0)) := by
  obtain ⟨e, rfl, h1⟩ := qd h
  obtain ⟨r1, r2, r3, r4⟩ := hR
  have hM : ∀ k, 0 ≤ k → k < zm S 37 12 → (qMt W.length (zm S 47) (zm S 46) (fun j => qnth W j + 97) k ↔ zm S 47 k = W.length ∧ ∀ j, 0 ≤ j → j < (W.length : Int) → zm S (zm S 7 k + 1) j = zm S x j) := by
    intro k k1 k2
    obtain ⟨-, -, -, q, -⟩ := r3 k k1 k2
    constructor
    · intro z
      refine ⟨z.1, fun j j1 j2 => ?_⟩
      have a := z.2 j j1 j2
      have b := q j j1 (by rw [z.1]; exact j2)
      rw [qA_n hA j j1 j2]
      simp only at a
      omega
    · intro z
      refine ⟨z.1, fun j j1 j2 => ?_⟩
      have a := z.2 j j1 j2
      have b := q j j1 (by rw [z.1]; exact j2)
      rw [qA_n hA j j1 j2] at a
      show zm S 46 (10 * k + j) = qnth W j + 97
      omega
  have lp : ∀ (f : Nat) (i : Int), 0 ≤ i → i + f = zm S 37 12 → (∀ k, 0 ≤ k → k < i → ¬ qMt W.length (zm S 47) (zm S 46) (fun j => qnth W j + 97) k) →
      ∃ D, zF_163 e 2 [vr 3, vr x, vi W.length, vi i] [] S = some (.inl (some (vr D)), S) ∧ ((D = 0 ∧ ∀ k, 0 ≤ k → k < zm S 37 12 → ¬ qMt W.length (zm S 47) (zm S 46) (fun j => qnth W j + 97) k) ∨ ∃ k, 0 ≤ k ∧ k < zm S 37 12 ∧ D = zm S 7 k ∧ qMt W.length (zm S 47) (zm S 46) (fun j => qnth W j + 97) k) := by
    intro f
    induction f with
    | zero =>
      intro i i1 i2 i3
      refine ⟨0, ?_, Or.inl ⟨rfl, fun k k1 k2 => i3 k k1 (by omega)⟩⟩
      rw [b163_2]
      simp (config := { maxSteps := 2000000 }) (disch := first | omega | (simp only [K_3 hK, qb_in, qkW, qmW, qnW, true_and, and_true, or_self, true_or, or_true, and_self]; done) | (simp only [K_3 hK, qb_in, qkW, qmW, qnW, true_and, and_true, or_self, true_or, or_true, and_self]; omega)) only [b163_0, b163_10, b163_28, b163_33, b163_36, b163_43, b163_49, qcall_l, qcall_r, qretn_l, qJ_s, qJ_n, qV0, qEx, ↓qif0, ↓zchk_pos, ↓reduceIte, qput, qWW, qmW, qkW, qnW, K_3 hK, r1, if_neg (show ¬ i < zm S 37 12 by omega)]
    | succ f ih =>
      intro i i1 i2 i3
      obtain ⟨⟨z1, z2, z3, z4, z5, z6, z7⟩, ⟨v1, v2, -⟩, z8, z9, -⟩ := r3 i i1 (by omega)
      obtain ⟨v, ra, hv, gv⟩ := s_areSame e S (zm S 7 i + 1) x (zm S 47 i) W.length 10 10 (by omega) z2 kx (by omega)
      rw [b163_2]
      rcases hv with hv | hv
      · rw [hv] at ra
        obtain ⟨D, r, p⟩ := ih (i + 1) (by omega) (by omega) fun k k1 k2 => by
          by_cases q : k = i
          · subst q
            intro w
            have := gv.mpr ((hM k k1 (by omega)).mp w |>.imp id fun y j j1 j2 => y j j1 (by have := w.1; omega))
            omega
          · exact i3 k k1 (by omega)
        refine ⟨D, ?_, p⟩
        simp (config := { maxSteps := 2000000 }) (disch := first | omega | (simp only [K_3 hK, K_7 hK, P_3_3 hP, P_3_3 hP, z1, qb_in, qkW, qmW, qnW, true_and, and_true, or_self, true_or, or_true, and_self]; done) | (simp only [K_3 hK, K_7 hK, P_3_3 hP, P_3_3 hP, z1, qb_in, qkW, qmW, qnW, true_and, and_true, or_self, true_or, or_true, and_self]; omega)) only [b163_0, b163_10, b163_28, b163_33, b163_36, b163_43, b163_49, qcall_l, qcall_r, qretn_l, qJ_s, qJ_n, qV0, qEx, ↓qif0, ↓zchk_pos, ↓reduceIte, qput, qWW, qmW, qkW, qnW, K_3 hK, K_7 hK, P_3_3 hP, P_3_3 hP, r1, z1, z4, v2, if_pos (show i < zm S 37 12 by omega), ra, Int.reduceEq, q32]
        exact r
      · have gq := gv.mp hv
        rw [hv] at ra
        refine ⟨zm S 7 i, ?_, Or.inr ⟨i, i1, by omega, rfl, (hM i i1 (by omega)).mpr ⟨gq.1, fun j j1 j2 => gq.2 j j1 (by have := gq.1; omega)⟩⟩⟩
        simp (config := { maxSteps := 2000000 }) (disch := first | omega | (simp only [K_3 hK, K_7 hK, P_3_3 hP, P_3_3 hP, z1, qb_in, qkW, qmW, qnW, true_and, and_true, or_self, true_or, or_true, and_self]; done) | (simp only [K_3 hK, K_7 hK, P_3_3 hP, P_3_3 hP, z1, qb_in, qkW, qmW, qnW, true_and, and_true, or_self, true_or, or_true, and_self]; omega)) only [b163_0, b163_10, b163_28, b163_33, b163_36, b163_43, b163_49, qcall_l, qcall_r, qretn_l, qJ_s, qJ_n, qV0, qEx, ↓qif0, ↓zchk_pos, ↓reduceIte, qput, qWW, qmW, qkW, qnW, K_3 hK, K_7 hK, P_3_3 hP, P_3_3 hP, r1, z1, z4, v2, if_pos (show i < zm S 37 12 by omega), ra, Int.reduceEq, q32]
  obtain ⟨D, r, p⟩ := lp (zm S 37 12).toNat 0 (by omega) (by omega) fun k k1 k2 => by omega
  refine ⟨D, ?_, ?_⟩
  · simp (config := { maxSteps := 2000000 }) (disch := first | omega | (simp only [qb_in, qkW, qmW, qnW, true_and, and_true, or_self, true_or, or_true, and_self]; done) | (simp only [qb_in, qkW, qmW, qnW, true_and, and_true, or_self, true_or, or_true, and_self]; omega)) only [zD_163, b163_0, b163_10, b163_28, b163_33, b163_36, b163_43, b163_49, qcall_l, qcall_r, qretn_l, qJ_s, qJ_n, qV0, qEx, ↓qif0, ↓zchk_pos, ↓reduceIte, qput, qWW, qmW, qkW, qnW]
    exact r
  · rcases p with ⟨rfl, p⟩ | ⟨k, k1, k2, rfl, hMk⟩
    · have e0 : qPw (zm S) W 0 = 0 := qfp_n _ _ (by omega) _ _ _ _ _ _ _ (by omega) p
      rw [e0]
      exact ⟨Or.inl ⟨rfl, rfl⟩, fun q => absurd rfl q, by rw [qpl_z _ hW.1]; show 1 ≤ 4; decide, rfl⟩
    · obtain ⟨zb, zv, z8, z9, z10⟩ := r3 k k1 k2
      have zn6 := zb.2.2.2.2.2.1
      have e0 : qPw (zm S) W 0 = zm S 48 k := qfp_y _ _ (by omega) _ _ _ _ k k2 hMk (fun i i1 i2 w => r4 k i k1 i1 i2 ⟨by rw [hMk.1, w.1], fun j j1 j2 => by rw [hMk.2 j j1 (by have := hMk.1; omega), w.2 j j1 (by have := hMk.1; omega)]⟩) _ 0 0 (by omega) (by omega)
      have en : zm S 47 k = W.length := hMk.1
      rw [e0]
      rw [en] at zv z10
      rw [show ((W.length : Int)).toNat = W.length by omega] at z10
      refine ⟨Or.inr ⟨by omega, zv⟩, fun _ => zb, z10, propext ⟨fun q => by omega, fun q => ?_⟩⟩
      obtain ⟨-, -, -, y4, y5, -⟩ := zv
      have := (y5 0 (by omega) (by omega)).2.2
      rw [q, qbt_0] at this
      exact absurd this (by decide)
