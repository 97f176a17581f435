/-! Both constructors: the objects that they make, one after another. -/
def qJk : List (Int × Nat × Int) → Int → Nat × Int
  | [], _ => (99, 0)
  | (b, k) :: r, a => if a = b then k else qJk r a
def qlm : List (Int × Int × Int) → Int → Int → Int
  | [], _, _ => 0
  | (b, i, v) :: r, a, j => if a = b ∧ j = i then v else qlm r a j
/-- ks: the kinds from 3 on, ps: what was put since, the latest first -/
def qI (S0 S : zS) (N : Int) (ks : List (Int × Nat × Int)) (ps : List (Int × Int × Int)) (W : Nat) : Prop :=
  (zn S : Int) = N ∧ (∀ a, 3 ≤ a → a < N → zk S a = qJk ks a) ∧ (∀ a j, 3 ≤ a → a < N → zm S a j = qlm ps a j) ∧ (∀ a, a < 3 → zk S a = zk S0 a) ∧ (∀ a, a < 3 → zm S a = zm S0 a) ∧ zc S + 3 = zn S ∧ zw S = W ∧ 3 ≤ N ∧ ∀ p ∈ ps, p.1 < N
theorem qlm_0 {ps : List (Int × Int × Int)} {N : Int} (h : ∀ p ∈ ps, p.1 < N) (j : Int) : qlm ps N j = 0 := by
  induction ps with
  | nil => rfl
  | cons p r ih =>
    obtain ⟨b, i, v⟩ := p
    have hb : b < N := h (b, i, v) List.mem_cons_self
    rw [qlm, if_neg (by omega)]
    exact ih fun q hq => h q (List.mem_cons_of_mem _ hq)
theorem qI_al {S0 S : zS} {N N' : Int} {ks : List (Int × Nat × Int)} {ps : List (Int × Int × Int)} {W : Nat} (h : qI S0 S N ks ps W) (t : Nat) (l : Int) (w : Nat) (hN : N' = N + 1) : qI S0 (zalloc S t l w) N' ((N, t, l) :: ks) ps (W + w) := by
  obtain ⟨h1, h2, h3, h4, h5, h6, h7, h8, h9⟩ := h
  subst hN
  refine ⟨by rw [qal_n, h1], fun a a1 a2 => ?_, fun a j a1 a2 => ?_, fun a ha => ?_, fun a ha => ?_, ?_, ?_, by omega, fun p hp => by have := h9 p hp; omega⟩
  · rw [qal_k, h1, qJk]
    by_cases c : a = N
    · rw [if_pos c, if_pos c]
    · rw [if_neg c, if_neg c, h2 a a1 (by omega)]
  · rw [qal_m, h1]
    by_cases c : a = N
    · subst c
      rw [qz_s, qlm_0 h9]
    · rw [qz_o _ c, h3 a j a1 (by omega)]
  · rw [qal_k, h1, if_neg (by omega), h4 a ha]
  · rw [qal_m, h1, qz_o _ (by omega), h5 a ha]
  · show zc S + 1 + 3 = zn S + 1
    omega
  · show zw S + w = W + w
    rw [h7]
theorem qI_pu {S0 S : zS} {N : Int} {ks : List (Int × Nat × Int)} {ps : List (Int × Int × Int)} {W : Nat} (h : qI S0 S N ks ps W) (a j v : Int) (ha : 3 ≤ a ∧ a < N) : qI S0 (zput S a j v) N ks ((a, j, v) :: ps) W := by
  obtain ⟨h1, h2, h3, h4, h5, h6, h7, h8, h9⟩ := h
  refine ⟨h1, h2, fun b i b1 b2 => ?_, h4, fun b hb => ?_, h6, h7, h8, fun p hp => ?_⟩
  · show qu (zm S) a j v b i = _
    rw [qu1, qlm]
    by_cases c : b = a
    · by_cases c2 : i = j
      · rw [if_pos c, if_pos c2, if_pos ⟨c, c2⟩]
      · rw [if_pos c, if_neg c2, if_neg fun z => c2 z.2, h3 b i b1 b2]
    · rw [if_neg c, if_neg fun z => c z.1, h3 b i b1 b2]
  · show qu (zm S) a j v b = _
    rw [qu_o _ _ _ _ _ (by omega), h5 b hb]
  · rcases List.mem_cons.mp hp with rfl | hp
    · exact ha.2
    · exact h9 p hp
theorem qI_mu {S0 S : zS} {N N1 N2 N3 N' : Int} {ks : List (Int × Nat × Int)} {ps : List (Int × Int × Int)} {W : Nat} (h : qI S0 S N ks ps W) (e1 : N1 = N + 1) (e2 : N2 = N + 2) (e3 : N3 = N + 3) (e4 : N' = N + 4) : qI S0 (zmulti S 8 0 3 6) N' ((N, 8, 3) :: (N1, 0, 6) :: (N2, 0, 6) :: (N3, 0, 6) :: ks) ((N, 0, N1) :: (N, 1, N2) :: (N, 2, N3) :: ps) (W + 21) := by
  obtain ⟨h1, h2, h3, h4, h5, h6, h7, h8, h9⟩ := h
  have hz := fun j => qlm_0 (N := N) h9 j
  have hz' : ∀ b, N ≤ b → ∀ j, qlm ps b j = 0 := fun b hb j => qlm_0 (fun p hp => by have := h9 p hp; omega) j
  have hS : (S.1.1 : Int) = N := h1
  subst e1 e2 e3 e4
  refine ⟨?_, fun a a1 a2 => ?_, fun a j a1 a2 => ?_, fun a ha => ?_, fun a ha => ?_, ?_, ?_, by omega, fun p hp => ?_⟩
  · show ((S.1.1 + 1 + 3 : Nat) : Int) = N + 4
    omega
  · show (if a = (S.1.1 : Int) then (8, ((3 : Nat) : Int)) else if (S.1.1 : Int) < a ∧ a ≤ (S.1.1 : Int) + (3 : Nat) then (0, ((6 : Nat) : Int)) else S.2.1 a) = _
    rw [hS, qJk, qJk, qJk, qJk]
    by_cases c0 : a = N
    · rw [if_pos c0, if_pos c0]; rfl
    · rw [if_neg c0, if_neg c0]
      by_cases c1 : a = N + 1
      · rw [if_pos c1, if_pos (by omega)]; rfl
      · rw [if_neg c1]
        by_cases c2 : a = N + 2
        · rw [if_pos c2, if_pos (by omega)]; rfl
        · rw [if_neg c2]
          by_cases c3 : a = N + 3
          · rw [if_pos c3, if_pos (by omega)]; rfl
          · rw [if_neg c3, if_neg (by omega)]
            exact h2 a a1 (by omega)
  · show (if a = (S.1.1 : Int) then (if 0 ≤ j ∧ j < ((3 : Nat) : Int) then (S.1.1 : Int) + 1 + j else 0) else if (S.1.1 : Int) < a ∧ a ≤ (S.1.1 : Int) + (3 : Nat) then 0 else S.2.2 a j) = _
    rw [hS, qlm, qlm, qlm]
    by_cases c0 : a = N
    · rw [if_pos c0]
      by_cases j0 : j = 0
      · rw [if_pos (by omega), if_pos ⟨c0, j0⟩]; omega
      · rw [if_neg (show ¬ (a = N ∧ j = 0) from fun z => j0 z.2)]
        by_cases j1 : j = 1
        · rw [if_pos (by omega), if_pos ⟨c0, j1⟩]; omega
        · rw [if_neg (show ¬ (a = N ∧ j = 1) from fun z => j1 z.2)]
          by_cases j2 : j = 2
          · rw [if_pos (by omega), if_pos ⟨c0, j2⟩]; omega
          · rw [if_neg (show ¬ (a = N ∧ j = 2) from fun z => j2 z.2), if_neg (by omega), c0, hz]
    · rw [if_neg c0, if_neg (show ¬ (a = N ∧ j = 0) from fun z => c0 z.1), if_neg (show ¬ (a = N ∧ j = 1) from fun z => c0 z.1), if_neg (show ¬ (a = N ∧ j = 2) from fun z => c0 z.1)]
      by_cases c1 : N < a ∧ a ≤ N + (3 : Nat)
      · rw [if_pos c1, hz' a (by omega)]
      · rw [if_neg c1]
        exact h3 a j a1 (by omega)
  · show (if a = (S.1.1 : Int) then (8, ((3 : Nat) : Int)) else if (S.1.1 : Int) < a ∧ a ≤ (S.1.1 : Int) + (3 : Nat) then (0, ((6 : Nat) : Int)) else S.2.1 a) = _
    rw [if_neg (by omega), if_neg (by omega)]
    exact h4 a ha
  · funext j
    show (if a = (S.1.1 : Int) then (if 0 ≤ j ∧ j < ((3 : Nat) : Int) then (S.1.1 : Int) + 1 + j else 0) else if (S.1.1 : Int) < a ∧ a ≤ (S.1.1 : Int) + (3 : Nat) then 0 else S.2.2 a j) = _
    rw [if_neg (by omega), if_neg (by omega)]
    exact congrFun (h5 a ha) j
  · show zc S + 1 + 3 + 3 = zn S + 1 + 3
    omega
  · show zw S + 3 + 3 * 6 = W + 21
    omega
  · simp only [List.mem_cons] at hp
    rcases hp with rfl | rfl | rfl | hp
    · show N < N + 4; omega
    · show N < N + 4; omega
    · show N < N + 4; omega
    · have := h9 p hp; omega
/-- a new array into a field -/
theorem qIs {S0 S : zS} {N : Int} {ks : List (Int × Nat × Int)} {ps : List (Int × Int × Int)} {W : Nat} (h : qI S0 S N ks ps W) (N' a j n : Int) (t c : Nat) (X : zR) (G : zS → zR) (hN : N' = N + 1) (ha : 3 ≤ a ∧ a < N) (hk : (qJk ks a).1 = c) (hn : 0 ≤ n ∧ n ≤ 1000000)
    (hb : X = zchk (0 ≤ n ∧ n ≤ 1000000) (zchk ((zk (zalloc S t n n.toNat) a).1 = c) (G (zput (zalloc S t n n.toNat) a j (zn S : Int))))) : ∃ S', X = G S' ∧ qI S0 S' N' ((N, t, n) :: ks) ((a, j, N) :: ps) (W + n.toNat) := by
  have h1 := h.1
  have g := qI_al h t n n.toNat hN
  refine ⟨zput (zalloc S t n n.toNat) a j N, ?_, qI_pu g a j N (by omega)⟩
  rw [hb, zchk_pos hn, zchk_pos ?_, h1]
  rw [g.2.1 a ha.1 (by omega), qJk, if_neg (by omega)]
  exact hk
/-- a put that is checked -/
theorem qIp {S0 S : zS} {N : Int} {ks : List (Int × Nat × Int)} {ps : List (Int × Int × Int)} {W : Nat} (h : qI S0 S N ks ps W) (a j v : Int) (c : Nat) (X : zR) (G : zS → zR) (ha : 3 ≤ a ∧ a < N) (hk : (qJk ks a).1 = c)
    (hb : X = zchk ((zk S a).1 = c) (G (zput S a j v))) : ∃ S', X = G S' ∧ qI S0 S' N ks ((a, j, v) :: ps) W := by
  refine ⟨zput S a j v, ?_, qI_pu h a j v ha⟩
  rw [hb, zchk_pos ?_]
  rw [h.2.1 a ha.1 ha.2]
  exact hk
theorem qI_k {S0 S : zS} {N : Int} {ks : List (Int × Nat × Int)} {ps : List (Int × Int × Int)} {W : Nat} (h : qI S0 S N ks ps W) {a : Int} {k : Nat × Int} (ha : 3 ≤ a ∧ a < N) (hk : qJk ks a = k) : zk S a = k := (h.2.1 a ha.1 ha.2).trans hk
theorem qI_k1 {S0 S : zS} {N : Int} {ks : List (Int × Nat × Int)} {ps : List (Int × Int × Int)} {W : Nat} (h : qI S0 S N ks ps W) {a : Int} {c : Nat} (ha : 3 ≤ a ∧ a < N) (hk : (qJk ks a).1 = c) : (zk S a).1 = c := by
  rw [h.2.1 a ha.1 ha.2]
  exact hk
theorem qI_m {S0 S : zS} {N : Int} {ks : List (Int × Nat × Int)} {ps : List (Int × Int × Int)} {W : Nat} (h : qI S0 S N ks ps W) {a j v : Int} (ha : 3 ≤ a ∧ a < N) (hk : qlm ps a j = v) : zm S a j = v := (h.2.2.1 a j ha.1 ha.2).trans hk
theorem qi87_4 (d : Nat) (S0 S : zS) {ks : List (Int × Nat × Int)} {ps : List (Int × Int × Int)} {W : Nat} (h : qI S0 S 5 ((4, 29, 0) :: ks) ps W) : ∃ S1 W1, zD (d + 1) 87 [vr 4] S = some (.inl none, S1) ∧ qI S0 S1 6 ((5, 2, 60) :: (4, 29, 0) :: ks) ((4, 0, 5) :: ps) W1 ∧ W1 ≤ W + 60 := by
  rw [zD_87]
  obtain ⟨S1, e, h⟩ := qIs h 6 4 0 60 2 29 (zF_87 d 0 [vr 4] [] S) (fun S => zF_87 d 12 [vr 4] [] S) (by decide) (by decide) (by rfl) (by decide) (by rw [b87_0, zchk_pos (show (4 : Int) ≠ 0 by decide)])
  rw [e]
  clear e
  obtain ⟨S, hS⟩ : ∃ Sx, S1 = Sx := ⟨_, rfl⟩
  rw [hS] at h ⊢
  clear hS
  exact ⟨S, _, by rw [b87_12], h, Nat.le_refl _⟩
theorem qi102_15 (d : Nat) (S0 S : zS) {ks : List (Int × Nat × Int)} {ps : List (Int × Int × Int)} {W : Nat} (h : qI S0 S 16 ((15, 30, 0) :: ks) ps W) : ∃ S1 W1, zD (d + 1) 102 [vr 15] S = some (.inl none, S1) ∧ qI S0 S1 18 ((17, 0, 30) :: (16, 0, 30) :: (15, 30, 0) :: ks) ((15, 1, 17) :: (15, 0, 16) :: ps) W1 ∧ W1 ≤ W + 60 := by
  rw [zD_102]
  obtain ⟨S1, e, h⟩ := qIs h 17 15 0 30 0 30 (zF_102 d 0 [vr 15] [] S) (fun S => zF_102 d 12 [vr 15] [] S) (by decide) (by decide) (by rfl) (by decide) (by rw [b102_0, zchk_pos (show (15 : Int) ≠ 0 by decide)])
  rw [e]
  clear e
  obtain ⟨S, hS⟩ : ∃ Sx, S1 = Sx := ⟨_, rfl⟩
  rw [hS] at h ⊢
  clear hS
  obtain ⟨S1, e, h⟩ := qIs h 18 15 1 30 0 30 (zF_102 d 12 [vr 15] [] S) (fun S => zF_102 d 20 [vr 15] [] S) (by decide) (by decide) (by rfl) (by decide) (by rw [b102_12])
  rw [e]
  clear e
  obtain ⟨S, hS⟩ : ∃ Sx, S1 = Sx := ⟨_, rfl⟩
  rw [hS] at h ⊢
  clear hS
  exact ⟨S, _, by rw [b102_20], h, Nat.le_refl _⟩
theorem qi81_18 (d : Nat) (S0 S : zS) {ks : List (Int × Nat × Int)} {ps : List (Int × Int × Int)} {W : Nat} (h : qI S0 S 19 ((18, 28, 0) :: ks) ps W) : ∃ S1 W1, zD (d + 1) 81 [vr 18] S = some (.inl none, S1) ∧ qI S0 S1 20 ((19, 0, 10) :: (18, 28, 0) :: ks) ((18, 0, 19) :: ps) W1 ∧ W1 ≤ W + 10 := by
  rw [zD_81]
  obtain ⟨S1, e, h⟩ := qIs h 20 18 0 10 0 28 (zF_81 d 0 [vr 18] [] S) (fun S => zF_81 d 12 [vr 18] [] S) (by decide) (by decide) (by rfl) (by decide) (by rw [b81_0, zchk_pos (show (18 : Int) ≠ 0 by decide)])
  rw [e]
  clear e
  obtain ⟨S, hS⟩ : ∃ Sx, S1 = Sx := ⟨_, rfl⟩
  rw [hS] at h ⊢
  clear hS
  exact ⟨S, _, by rw [b81_12], h, Nat.le_refl _⟩
theorem qi107_20 (d : Nat) (S0 S : zS) {ks : List (Int × Nat × Int)} {ps : List (Int × Int × Int)} {W : Nat} (h : qI S0 S 21 ((20, 31, 0) :: ks) ps W) : ∃ S1 W1, zD (d + 1) 107 [vr 20] S = some (.inl none, S1) ∧ qI S0 S1 23 ((22, 0, 4) :: (21, 0, 16) :: (20, 31, 0) :: ks) ((20, 4, 22) :: (20, 0, 21) :: ps) W1 ∧ W1 ≤ W + 20 := by
  rw [zD_107]
  obtain ⟨S1, e, h⟩ := qIs h 22 20 0 16 0 31 (zF_107 d 0 [vr 20] [] S) (fun S => zF_107 d 12 [vr 20] [] S) (by decide) (by decide) (by rfl) (by decide) (by rw [b107_0, zchk_pos (show (20 : Int) ≠ 0 by decide)])
  rw [e]
  clear e
  obtain ⟨S, hS⟩ : ∃ Sx, S1 = Sx := ⟨_, rfl⟩
  rw [hS] at h ⊢
  clear hS
  obtain ⟨S1, e, h⟩ := qIs h 23 20 4 4 0 31 (zF_107 d 12 [vr 20] [] S) (fun S => zF_107 d 19 [vr 20] [] S) (by decide) (by decide) (by rfl) (by decide) (by rw [b107_12])
  rw [e]
  clear e
  obtain ⟨S, hS⟩ : ∃ Sx, S1 = Sx := ⟨_, rfl⟩
  rw [hS] at h ⊢
  clear hS
  exact ⟨S, _, by rw [b107_19], h, Nat.le_refl _⟩
theorem qi52_23 (d : Nat) (S0 S : zS) {ks : List (Int × Nat × Int)} {ps : List (Int × Int × Int)} {W : Nat} (h : qI S0 S 24 ((23, 26, 0) :: ks) ps W) : ∃ S1 W1, zD (d + 1) 52 [vr 23] S = some (.inl none, S1) ∧ qI S0 S1 30 ((29, 0, 160) :: (28, 0, 24) :: (27, 0, 24) :: (26, 0, 24) :: (25, 2, 24) :: (24, 2, 160) :: (23, 26, 0) :: ks) ((23, 10, 29) :: (23, 9, -1) :: (23, 7, 28) :: (23, 6, 27) :: (23, 5, 26) :: (23, 4, 25) :: (23, 0, 24) :: ps) W1 ∧ W1 ≤ W + 416 := by
  rw [zD_52]
  obtain ⟨S1, e, h⟩ := qIs h 25 23 0 160 2 26 (zF_52 d 0 [vr 23] [] S) (fun S => zF_52 d 13 [vr 23] [] S) (by decide) (by decide) (by rfl) (by decide) (by rw [b52_0, zchk_pos (show (23 : Int) ≠ 0 by decide)])
  rw [e]
  clear e
  obtain ⟨S, hS⟩ : ∃ Sx, S1 = Sx := ⟨_, rfl⟩
  rw [hS] at h ⊢
  clear hS
  obtain ⟨S1, e, h⟩ := qIs h 26 23 4 24 2 26 (zF_52 d 13 [vr 23] [] S) (fun S => zF_52 d 21 [vr 23] [] S) (by decide) (by decide) (by rfl) (by decide) (by rw [b52_13])
  rw [e]
  clear e
  obtain ⟨S, hS⟩ : ∃ Sx, S1 = Sx := ⟨_, rfl⟩
  rw [hS] at h ⊢
  clear hS
  obtain ⟨S1, e, h⟩ := qIs h 27 23 5 24 0 26 (zF_52 d 21 [vr 23] [] S) (fun S => zF_52 d 29 [vr 23] [] S) (by decide) (by decide) (by rfl) (by decide) (by rw [b52_21])
  rw [e]
  clear e
  obtain ⟨S, hS⟩ : ∃ Sx, S1 = Sx := ⟨_, rfl⟩
  rw [hS] at h ⊢
  clear hS
  obtain ⟨S1, e, h⟩ := qIs h 28 23 6 24 0 26 (zF_52 d 29 [vr 23] [] S) (fun S => zF_52 d 37 [vr 23] [] S) (by decide) (by decide) (by rfl) (by decide) (by rw [b52_29])
  rw [e]
  clear e
  obtain ⟨S, hS⟩ : ∃ Sx, S1 = Sx := ⟨_, rfl⟩
  rw [hS] at h ⊢
  clear hS
  obtain ⟨S1, e, h⟩ := qIs h 29 23 7 24 0 26 (zF_52 d 37 [vr 23] [] S) (fun S => zF_52 d 45 [vr 23] [] S) (by decide) (by decide) (by rfl) (by decide) (by rw [b52_37, b52_40])
  rw [e]
  clear e
  obtain ⟨S, hS⟩ : ∃ Sx, S1 = Sx := ⟨_, rfl⟩
  rw [hS] at h ⊢
  clear hS
  have g := h
  have h := qI_pu h 23 9 (-1) (by decide)
  obtain ⟨S1, e, h⟩ := qIs h 30 23 10 160 0 26 (zF_52 d 45 [vr 23] [] S) (fun S => zF_52 d 59 [vr 23] [] S) (by decide) (by decide) (by rfl) (by decide) (by rw [b52_45, zchk_pos (show (zk S 23).1 = 26 from qI_k1 g (by decide) (by rfl))])
  rw [e]
  clear e
  clear g
  obtain ⟨S, hS⟩ : ∃ Sx, S1 = Sx := ⟨_, rfl⟩
  rw [hS] at h ⊢
  clear hS
  exact ⟨S, _, by rw [b52_59], h, Nat.le_refl _⟩
theorem qi52_30 (d : Nat) (S0 S : zS) {ks : List (Int × Nat × Int)} {ps : List (Int × Int × Int)} {W : Nat} (h : qI S0 S 31 ((30, 26, 0) :: ks) ps W) : ∃ S1 W1, zD (d + 1) 52 [vr 30] S = some (.inl none, S1) ∧ qI S0 S1 37 ((36, 0, 160) :: (35, 0, 24) :: (34, 0, 24) :: (33, 0, 24) :: (32, 2, 24) :: (31, 2, 160) :: (30, 26, 0) :: ks) ((30, 10, 36) :: (30, 9, -1) :: (30, 7, 35) :: (30, 6, 34) :: (30, 5, 33) :: (30, 4, 32) :: (30, 0, 31) :: ps) W1 ∧ W1 ≤ W + 416 := by
  rw [zD_52]
  obtain ⟨S1, e, h⟩ := qIs h 32 30 0 160 2 26 (zF_52 d 0 [vr 30] [] S) (fun S => zF_52 d 13 [vr 30] [] S) (by decide) (by decide) (by rfl) (by decide) (by rw [b52_0, zchk_pos (show (30 : Int) ≠ 0 by decide)])
  rw [e]
  clear e
  obtain ⟨S, hS⟩ : ∃ Sx, S1 = Sx := ⟨_, rfl⟩
  rw [hS] at h ⊢
  clear hS
  obtain ⟨S1, e, h⟩ := qIs h 33 30 4 24 2 26 (zF_52 d 13 [vr 30] [] S) (fun S => zF_52 d 21 [vr 30] [] S) (by decide) (by decide) (by rfl) (by decide) (by rw [b52_13])
  rw [e]
  clear e
  obtain ⟨S, hS⟩ : ∃ Sx, S1 = Sx := ⟨_, rfl⟩
  rw [hS] at h ⊢
  clear hS
  obtain ⟨S1, e, h⟩ := qIs h 34 30 5 24 0 26 (zF_52 d 21 [vr 30] [] S) (fun S => zF_52 d 29 [vr 30] [] S) (by decide) (by decide) (by rfl) (by decide) (by rw [b52_21])
  rw [e]
  clear e
  obtain ⟨S, hS⟩ : ∃ Sx, S1 = Sx := ⟨_, rfl⟩
  rw [hS] at h ⊢
  clear hS
  obtain ⟨S1, e, h⟩ := qIs h 35 30 6 24 0 26 (zF_52 d 29 [vr 30] [] S) (fun S => zF_52 d 37 [vr 30] [] S) (by decide) (by decide) (by rfl) (by decide) (by rw [b52_29])
  rw [e]
  clear e
  obtain ⟨S, hS⟩ : ∃ Sx, S1 = Sx := ⟨_, rfl⟩
  rw [hS] at h ⊢
  clear hS
  obtain ⟨S1, e, h⟩ := qIs h 36 30 7 24 0 26 (zF_52 d 37 [vr 30] [] S) (fun S => zF_52 d 45 [vr 30] [] S) (by decide) (by decide) (by rfl) (by decide) (by rw [b52_37, b52_40])
  rw [e]
  clear e
  obtain ⟨S, hS⟩ : ∃ Sx, S1 = Sx := ⟨_, rfl⟩
  rw [hS] at h ⊢
  clear hS
  have g := h
  have h := qI_pu h 30 9 (-1) (by decide)
  obtain ⟨S1, e, h⟩ := qIs h 37 30 10 160 0 26 (zF_52 d 45 [vr 30] [] S) (fun S => zF_52 d 59 [vr 30] [] S) (by decide) (by decide) (by rfl) (by decide) (by rw [b52_45, zchk_pos (show (zk S 30).1 = 26 from qI_k1 g (by decide) (by rfl))])
  rw [e]
  clear e
  clear g
  obtain ⟨S, hS⟩ : ∃ Sx, S1 = Sx := ⟨_, rfl⟩
  rw [hS] at h ⊢
  clear hS
  exact ⟨S, _, by rw [b52_59], h, Nat.le_refl _⟩
theorem q_newC (d : Nat) (S0 : zS) (h0 : qI S0 S0 3 [] [] 0) : ∃ S W, zD (d + 2) 114 [vr 3] (zalloc S0 32 0 18) = zF_114 (d + 1) 126 [vr 3, vi 0, vu] [] S ∧ qI S0 S 37 [(36, 0, 160), (35, 0, 24), (34, 0, 24), (33, 0, 24), (32, 2, 24), (31, 2, 160), (30, 26, 0), (29, 0, 160), (28, 0, 24), (27, 0, 24), (26, 0, 24), (25, 2, 24), (24, 2, 160), (23, 26, 0), (22, 0, 4), (21, 0, 16), (20, 31, 0), (19, 0, 10), (18, 28, 0), (17, 0, 30), (16, 0, 30), (15, 30, 0), (14, 10, 6), (13, 9, 20), (9, 8, 3), (10, 0, 6), (11, 0, 6), (12, 0, 6), (8, 7, 4), (7, 6, 12), (6, 5, 3), (5, 2, 60), (4, 29, 0), (3, 32, 0)] [(3, 17, 30), (30, 10, 36), (30, 9, -1), (30, 7, 35), (30, 6, 34), (30, 5, 33), (30, 4, 32), (30, 0, 31), (3, 16, 23), (23, 10, 29), (23, 9, -1), (23, 7, 28), (23, 6, 27), (23, 5, 26), (23, 4, 25), (23, 0, 24), (3, 15, 20), (20, 4, 22), (20, 0, 21), (3, 14, 18), (18, 0, 19), (3, 12, 15), (15, 1, 17), (15, 0, 16), (3, 10, 14), (3, 8, 13), (3, 7, 9), (9, 0, 10), (9, 1, 11), (9, 2, 12), (3, 5, 8), (3, 3, 7), (3, 1, 6), (3, 0, 4), (4, 0, 5)] W ∧ W ≤ 2000 := by
  have h : qI S0 (zalloc S0 32 0 18) 4 [(3, 32, 0)] [] (0 + 18) := qI_al h0 32 0 18 (by decide)
  obtain ⟨S, hS⟩ : ∃ Sx, zalloc S0 32 0 18 = Sx := ⟨_, rfl⟩
  rw [hS] at h ⊢
  clear hS
  rw [show d + 2 = d + 1 + 1 from rfl, zD_114]
  have gn : (zn S : Int) = 4 := h.1
  have h := qI_al (N' := 5) h 29 0 2 (by decide)
  obtain ⟨T, W4, e, h, hw4⟩ := qi87_4 d S0 _ h
  rw [b114_0, zchk_pos (show (3 : Int) ≠ 0 by decide), gn, zchk_pos (show (4 : Int) ≠ 0 by decide), e, qretn_l, qV0]
  clear e gn
  obtain ⟨S, hS⟩ : ∃ Sx, T = Sx := ⟨_, rfl⟩
  rw [hS] at h ⊢
  clear hS
  rw [b114_12, zchk_pos (show (zk S 3).1 = 32 from qI_k1 h (by decide) (by rfl))]
  have h := qI_pu h 3 0 4 (by decide)
  obtain ⟨S1, e, h⟩ := qIs h 7 3 1 3 5 32 _ (fun S => zF_114 (d + 1) 23 [vr 3, vu, vu] [] S) (by decide) (by decide) (by rfl) (by decide) rfl
  rw [e]
  clear e
  obtain ⟨S, hS⟩ : ∃ Sx, S1 = Sx := ⟨_, rfl⟩
  rw [hS] at h ⊢
  clear hS
  obtain ⟨S1, e, h⟩ := qIs h 8 3 3 12 6 32 (zF_114 (d + 1) 23 [vr 3, vu, vu] [] S) (fun S => zF_114 (d + 1) 32 [vr 3, vu, vu] [] S) (by decide) (by decide) (by rfl) (by decide) (by rw [b114_23])
  rw [e]
  clear e
  obtain ⟨S, hS⟩ : ∃ Sx, S1 = Sx := ⟨_, rfl⟩
  rw [hS] at h ⊢
  clear hS
  obtain ⟨S1, e, h⟩ := qIs h 9 3 5 4 7 32 (zF_114 (d + 1) 32 [vr 3, vu, vu] [] S) (fun S => zF_114 (d + 1) 40 [vr 3, vu, vu] [] S) (by decide) (by decide) (by rfl) (by decide) (by rw [b114_32, b114_33])
  rw [e]
  clear e
  obtain ⟨S, hS⟩ : ∃ Sx, S1 = Sx := ⟨_, rfl⟩
  rw [hS] at h ⊢
  clear hS
  have gn : (zn S : Int) = 9 := h.1
  have h := qI_mu (N1 := 10) (N2 := 11) (N3 := 12) (N' := 13) h (by decide) (by decide) (by decide) (by decide)
  have k3 : (zk (zmulti S 8 0 3 6) 3).1 = 32 := qI_k1 h (by decide) (by rfl)
  rw [b114_40, zchk_pos (show 0 ≤ (3 : Int) ∧ (3 : Int) ≤ 1000 ∧ 0 ≤ (6 : Int) ∧ (6 : Int) ≤ 1000 by decide), gn]
  rw [show Int.toNat 3 = 3 from rfl, show Int.toNat 6 = 6 from rfl, zchk_pos k3]
  have h := qI_pu h 3 7 9 (by decide)
  obtain ⟨S, hS⟩ : ∃ Sx, zput (zmulti S 8 0 3 6) 3 7 9 = Sx := ⟨_, rfl⟩
  rw [hS] at h ⊢
  clear hS
  clear k3 gn
  obtain ⟨S1, e, h⟩ := qIs h 14 3 8 20 9 32 (zF_114 (d + 1) 51 [vr 3, vu, vu] [] S) (fun S => zF_114 (d + 1) 60 [vr 3, vu, vu] [] S) (by decide) (by decide) (by rfl) (by decide) (by rw [b114_51, b114_54])
  rw [e]
  clear e
  obtain ⟨S, hS⟩ : ∃ Sx, S1 = Sx := ⟨_, rfl⟩
  rw [hS] at h ⊢
  clear hS
  obtain ⟨S1, e, h⟩ := qIs h 15 3 10 6 10 32 (zF_114 (d + 1) 60 [vr 3, vu, vu] [] S) (fun S => zF_114 (d + 1) 69 [vr 3, vu, vu] [] S) (by decide) (by decide) (by rfl) (by decide) (by rw [b114_60])
  rw [e]
  clear e
  obtain ⟨S, hS⟩ : ∃ Sx, S1 = Sx := ⟨_, rfl⟩
  rw [hS] at h ⊢
  clear hS
  have gn : (zn S : Int) = 15 := h.1
  have h := qI_al (N' := 16) h 30 0 3 (by decide)
  obtain ⟨T, W15, e, h, hw15⟩ := qi102_15 d S0 _ h
  rw [b114_69, gn, zchk_pos (show (15 : Int) ≠ 0 by decide), e, qretn_l, qV0]
  clear e gn
  obtain ⟨S, hS⟩ : ∃ Sx, T = Sx := ⟨_, rfl⟩
  rw [hS] at h ⊢
  clear hS
  rw [b114_77, zchk_pos (show (zk S 3).1 = 32 from qI_k1 h (by decide) (by rfl))]
  have h := qI_pu h 3 12 15 (by decide)
  obtain ⟨S, hS⟩ : ∃ Sx, zput S 3 12 15 = Sx := ⟨_, rfl⟩
  rw [hS] at h ⊢
  clear hS
  have gn : (zn S : Int) = 18 := h.1
  have h := qI_al (N' := 19) h 28 0 6 (by decide)
  obtain ⟨T, W18, e, h, hw18⟩ := qi81_18 d S0 _ h
  rw [gn, zchk_pos (show (18 : Int) ≠ 0 by decide), e, qretn_l, qV0]
  clear e gn
  obtain ⟨S, hS⟩ : ∃ Sx, T = Sx := ⟨_, rfl⟩
  rw [hS] at h ⊢
  clear hS
  rw [b114_88, zchk_pos (show (zk S 3).1 = 32 from qI_k1 h (by decide) (by rfl))]
  have h := qI_pu h 3 14 18 (by decide)
  obtain ⟨S, hS⟩ : ∃ Sx, zput S 3 14 18 = Sx := ⟨_, rfl⟩
  rw [hS] at h ⊢
  clear hS
  have gn : (zn S : Int) = 20 := h.1
  have h := qI_al (N' := 21) h 31 0 6 (by decide)
  obtain ⟨T, W20, e, h, hw20⟩ := qi107_20 d S0 _ h
  rw [gn, zchk_pos (show (20 : Int) ≠ 0 by decide), e, qretn_l, qV0]
  clear e gn
  obtain ⟨S, hS⟩ : ∃ Sx, T = Sx := ⟨_, rfl⟩
  rw [hS] at h ⊢
  clear hS
  rw [b114_99, zchk_pos (show (zk S 3).1 = 32 from qI_k1 h (by decide) (by rfl))]
  have h := qI_pu h 3 15 20 (by decide)
  obtain ⟨S, hS⟩ : ∃ Sx, zput S 3 15 20 = Sx := ⟨_, rfl⟩
  rw [hS] at h ⊢
  clear hS
  have gn : (zn S : Int) = 23 := h.1
  have h := qI_al (N' := 24) h 26 0 12 (by decide)
  obtain ⟨T, W23, e, h, hw23⟩ := qi52_23 d S0 _ h
  rw [gn, zchk_pos (show (23 : Int) ≠ 0 by decide), e, qretn_l, qV0]
  clear e gn
  obtain ⟨S, hS⟩ : ∃ Sx, T = Sx := ⟨_, rfl⟩
  rw [hS] at h ⊢
  clear hS
  rw [b114_110, zchk_pos (show (zk S 3).1 = 32 from qI_k1 h (by decide) (by rfl))]
  have h := qI_pu h 3 16 23 (by decide)
  obtain ⟨S, hS⟩ : ∃ Sx, zput S 3 16 23 = Sx := ⟨_, rfl⟩
  rw [hS] at h ⊢
  clear hS
  have gn : (zn S : Int) = 30 := h.1
  have h := qI_al (N' := 31) h 26 0 12 (by decide)
  obtain ⟨T, W30, e, h, hw30⟩ := qi52_30 d S0 _ h
  rw [gn, zchk_pos (show (30 : Int) ≠ 0 by decide), e, qretn_l, qV0]
  clear e gn
  obtain ⟨S, hS⟩ : ∃ Sx, T = Sx := ⟨_, rfl⟩
  rw [hS] at h ⊢
  clear hS
  rw [b114_121, zchk_pos (show (zk S 3).1 = 32 from qI_k1 h (by decide) (by rfl))]
  have h := qI_pu h 3 17 30 (by decide)
  obtain ⟨S, hS⟩ : ∃ Sx, zput S 3 17 30 = Sx := ⟨_, rfl⟩
  rw [hS] at h ⊢
  clear hS
  exact ⟨S, _, rfl, h, by simp only [Int.reduceToNat] at *; omega⟩
/-- new pins -/
theorem q_pinsC (d : Nat) : ∀ (f i : Nat) (S0 S : zS) (ks : List (Int × Nat × Int)) (ps : List (Int × Int × Int)) (W : Nat), i + f = 3 → qI S0 S 37 ks ps W → (qJk ks 3).1 = 32 → qJk ks 9 = (8, 3) → (∀ e : Int, 0 ≤ e → e < 3 → qJk ks (10 + e) = (0, 6)) → qlm ps 3 7 = 9 → (∀ e : Int, 0 ≤ e → e < 3 → qlm ps 9 e = 10 + e) →
    ∃ S1 ps1, zF_114 d 126 [vr 3, vi i, vu] [] S = some (.inl none, S1) ∧ qI S0 S1 37 ks ps1 W ∧ ∀ a j, qlm ps1 a j = if 10 + (i : Int) ≤ a ∧ a < 13 ∧ 0 ≤ j ∧ j < 6 then 1000 else qlm ps a j := by
  intro f
  induction f with
  | zero =>
    intro i S0 S ks ps W hi h k3 k9 k10 p7 p9
    refine ⟨S, ps, ?_, h, fun a j => by rw [if_neg (by omega)]⟩
    rw [b114_126, if_neg (by omega), b114_162]
  | succ f ih =>
    intro i S0 S ks ps W hi h k3 k9 k10 p7 p9
    have lp : ∀ (g j : Nat) (S : zS) (qs : List (Int × Int × Int)), j + g = 6 → qI S0 S 37 ks qs W → (∀ a p, qlm qs a p = if a = 10 + (i : Int) ∧ 0 ≤ p ∧ p < j then 1000 else qlm ps a p) → ∃ S1 qs1, zF_114 d 133 [vr 3, vi i, vi j] [] S = zF_114 d 156 [vr 3, vi i, vi 6] [] S1 ∧ qI S0 S1 37 ks qs1 W ∧ ∀ a p, qlm qs1 a p = if a = 10 + (i : Int) ∧ 0 ≤ p ∧ p < 6 then 1000 else qlm ps a p := by
      intro g
      induction g with
      | zero =>
        intro j S qs hj h hq
        obtain rfl : j = 6 := by omega
        refine ⟨S, qs, ?_, h, hq⟩
        rw [b114_133, if_neg (by decide)]
        rfl
      | succ g ihg =>
        intro j S qs hj h hq
        have m7 : zm S 3 7 = 9 := by rw [qI_m h (by decide) (hq 3 7), if_neg (by omega), p7]
        have m9 : zm S 9 i = 10 + i := by rw [qI_m h (by decide) (hq 9 i), if_neg (by omega), p9 i (by omega) (by omega)]
        have a3 : (zk S 3).1 = 32 := by rw [qI_k h (by decide) rfl]; exact k3
        have a9 : zk S 9 = (8, 3) := qI_k h (by decide) k9
        have a10 : zk S (10 + i) = (0, 6) := qI_k h (by omega) (k10 i (by omega) (by omega))
        have h2 := qI_pu h (10 + i) j 1000 (by omega)
        obtain ⟨S1, qs1, r, h3, h4⟩ := ihg (j + 1) _ _ (by omega) h2 (fun a p => by
          rw [qlm]
          by_cases c : a = 10 + (i : Int) ∧ p = (j : Int)
          · rw [if_pos c, if_pos (by omega)]
          · rw [if_neg c, hq]
            by_cases c2 : a = 10 + (i : Int) ∧ 0 ≤ p ∧ p < (j : Int)
            · rw [if_pos c2, if_pos (by omega)]
            · rw [if_neg c2, if_neg (by omega)])
        refine ⟨S1, qs1, ?_, h3, h4⟩
        rw [b114_133, if_pos (by omega), b114_139, zchk_pos a3, m7, a9, zchk_pos (by show ((8 : Nat) = 8 ∨ (8 : Nat) = 8) ∧ 0 ≤ (i : Int) ∧ (i : Int) < 3; omega), m9, a10, zchk_pos (by show (0 : Nat) = 0 ∧ 0 ≤ (j : Int) ∧ (j : Int) < 6; omega), q32 (by omega)]
        exact r
    obtain ⟨S1, qs1, r, h3, h4⟩ := lp 6 0 S ps (by omega) h (fun a p => by rw [if_neg (by omega)])
    obtain ⟨S2, qs2, r2, h5, h6⟩ := ih (i + 1) S0 S1 ks qs1 W (by omega) h3 k3 k9 k10 (by rw [h4, if_neg (by omega)]; exact p7) (fun e e1 e2 => by rw [h4, if_neg (by omega)]; exact p9 e e1 e2)
    refine ⟨S2, qs2, ?_, h5, fun a j => ?_⟩
    · rw [b114_126, if_pos (by omega), b114_131]
      refine Eq.trans r ?_
      rw [b114_156, q32 (by omega)]
      exact r2
    · rw [h6, h4]
      by_cases c : 10 + (i : Int) ≤ a ∧ a < 13 ∧ 0 ≤ j ∧ j < 6
      · rw [if_pos c]
        by_cases c2 : a = 10 + (i : Int)
        · rw [if_neg (by omega), if_pos (by omega)]
        · rw [if_pos (by omega)]
      · rw [if_neg c, if_neg (by omega), if_neg (by omega)]
theorem q_nM38 (d : Nat) (S0 S : zS) {ks : List (Int × Nat × Int)} {ps : List (Int × Int × Int)} {W : Nat} (h : qI S0 S 38 ks ps W) (h37 : (qJk ks 37).1 = 33) : ∃ S1 W1, zF_180 d 0 [vr 37, vu] [] S = zF_180 d 68 [vr 37, vu] [] S1 ∧ qI S0 S1 46 ((45, 0, 72) :: (44, 0, 72) :: (43, 0, 72) :: (42, 0, 72) :: (41, 0, 72) :: (40, 2, 432) :: (39, 0, 3) :: (38, 2, 60) :: ks) ((37, 11, 45) :: (37, 10, 44) :: (37, 9, 43) :: (37, 8, 42) :: (37, 7, 41) :: (37, 6, 40) :: (37, 5, 39) :: (37, 1, 38) :: ps) W1 ∧ W1 ≤ W + 855 := by
  obtain ⟨S1, e, h⟩ := qIs h 39 37 1 60 2 33 (zF_180 d 0 [vr 37, vu] [] S) (fun S => zF_180 d 12 [vr 37, vu] [] S) (by decide) (by decide) h37 (by decide) (by rw [b180_0, zchk_pos (show (37 : Int) ≠ 0 by decide)])
  rw [e]
  clear e
  obtain ⟨S, hS⟩ : ∃ Sx, S1 = Sx := ⟨_, rfl⟩
  rw [hS] at h ⊢
  clear hS
  obtain ⟨S1, e, h⟩ := qIs h 40 37 5 3 0 33 (zF_180 d 12 [vr 37, vu] [] S) (fun S => zF_180 d 19 [vr 37, vu] [] S) (by decide) (by decide) h37 (by decide) (by rw [b180_12])
  rw [e]
  clear e
  obtain ⟨S, hS⟩ : ∃ Sx, S1 = Sx := ⟨_, rfl⟩
  rw [hS] at h ⊢
  clear hS
  obtain ⟨S1, e, h⟩ := qIs h 41 37 6 432 2 33 (zF_180 d 19 [vr 37, vu] [] S) (fun S => zF_180 d 28 [vr 37, vu] [] S) (by decide) (by decide) h37 (by decide) (by rw [b180_19])
  rw [e]
  clear e
  obtain ⟨S, hS⟩ : ∃ Sx, S1 = Sx := ⟨_, rfl⟩
  rw [hS] at h ⊢
  clear hS
  obtain ⟨S1, e, h⟩ := qIs h 42 37 7 72 0 33 (zF_180 d 28 [vr 37, vu] [] S) (fun S => zF_180 d 36 [vr 37, vu] [] S) (by decide) (by decide) h37 (by decide) (by rw [b180_28])
  rw [e]
  clear e
  obtain ⟨S, hS⟩ : ∃ Sx, S1 = Sx := ⟨_, rfl⟩
  rw [hS] at h ⊢
  clear hS
  obtain ⟨S1, e, h⟩ := qIs h 43 37 8 72 0 33 (zF_180 d 36 [vr 37, vu] [] S) (fun S => zF_180 d 44 [vr 37, vu] [] S) (by decide) (by decide) h37 (by decide) (by rw [b180_36, b180_39])
  rw [e]
  clear e
  obtain ⟨S, hS⟩ : ∃ Sx, S1 = Sx := ⟨_, rfl⟩
  rw [hS] at h ⊢
  clear hS
  obtain ⟨S1, e, h⟩ := qIs h 44 37 9 72 0 33 (zF_180 d 44 [vr 37, vu] [] S) (fun S => zF_180 d 52 [vr 37, vu] [] S) (by decide) (by decide) h37 (by decide) (by rw [b180_44])
  rw [e]
  clear e
  obtain ⟨S, hS⟩ : ∃ Sx, S1 = Sx := ⟨_, rfl⟩
  rw [hS] at h ⊢
  clear hS
  obtain ⟨S1, e, h⟩ := qIs h 45 37 10 72 0 33 (zF_180 d 52 [vr 37, vu] [] S) (fun S => zF_180 d 60 [vr 37, vu] [] S) (by decide) (by decide) h37 (by decide) (by rw [b180_52])
  rw [e]
  clear e
  obtain ⟨S, hS⟩ : ∃ Sx, S1 = Sx := ⟨_, rfl⟩
  rw [hS] at h ⊢
  clear hS
  obtain ⟨S1, e, h⟩ := qIs h 46 37 11 72 0 33 (zF_180 d 60 [vr 37, vu] [] S) (fun S => zF_180 d 68 [vr 37, vu] [] S) (by decide) (by decide) h37 (by decide) (by rw [b180_60])
  rw [e]
  clear e
  obtain ⟨S, hS⟩ : ∃ Sx, S1 = Sx := ⟨_, rfl⟩
  rw [hS] at h ⊢
  clear hS
  exact ⟨S, _, rfl, h, by simp only [Int.reduceToNat]; omega⟩
theorem q_nM46 (d : Nat) (S0 S : zS) {ks : List (Int × Nat × Int)} {ps : List (Int × Int × Int)} {W : Nat} (h : qI S0 S 46 ks ps W) (h37 : (qJk ks 37).1 = 33) : ∃ S1 W1, zF_180 d 68 [vr 37, vu] [] S = zF_180 d 127 [vr 37, vu] [] S1 ∧ qI S0 S1 54 ((53, 4, 4) :: (52, 0, 4) :: (51, 0, 4) :: (50, 0, 4) :: (49, 0, 4) :: (48, 0, 12) :: (47, 0, 12) :: (46, 2, 120) :: ks) ((37, 21, 53) :: (37, 20, 52) :: (37, 19, 51) :: (37, 18, 50) :: (37, 17, 49) :: (37, 15, 48) :: (37, 14, 47) :: (37, 13, 46) :: ps) W1 ∧ W1 ≤ W + 164 := by
  obtain ⟨S1, e, h⟩ := qIs h 47 37 13 120 2 33 (zF_180 d 68 [vr 37, vu] [] S) (fun S => zF_180 d 76 [vr 37, vu] [] S) (by decide) (by decide) h37 (by decide) (by rw [b180_68])
  rw [e]
  clear e
  obtain ⟨S, hS⟩ : ∃ Sx, S1 = Sx := ⟨_, rfl⟩
  rw [hS] at h ⊢
  clear hS
  obtain ⟨S1, e, h⟩ := qIs h 48 37 14 12 0 33 (zF_180 d 76 [vr 37, vu] [] S) (fun S => zF_180 d 84 [vr 37, vu] [] S) (by decide) (by decide) h37 (by decide) (by rw [b180_76, b180_79])
  rw [e]
  clear e
  obtain ⟨S, hS⟩ : ∃ Sx, S1 = Sx := ⟨_, rfl⟩
  rw [hS] at h ⊢
  clear hS
  obtain ⟨S1, e, h⟩ := qIs h 49 37 15 12 0 33 (zF_180 d 84 [vr 37, vu] [] S) (fun S => zF_180 d 92 [vr 37, vu] [] S) (by decide) (by decide) h37 (by decide) (by rw [b180_84])
  rw [e]
  clear e
  obtain ⟨S, hS⟩ : ∃ Sx, S1 = Sx := ⟨_, rfl⟩
  rw [hS] at h ⊢
  clear hS
  obtain ⟨S1, e, h⟩ := qIs h 50 37 17 4 0 33 (zF_180 d 92 [vr 37, vu] [] S) (fun S => zF_180 d 99 [vr 37, vu] [] S) (by decide) (by decide) h37 (by decide) (by rw [b180_92])
  rw [e]
  clear e
  obtain ⟨S, hS⟩ : ∃ Sx, S1 = Sx := ⟨_, rfl⟩
  rw [hS] at h ⊢
  clear hS
  obtain ⟨S1, e, h⟩ := qIs h 51 37 18 4 0 33 (zF_180 d 99 [vr 37, vu] [] S) (fun S => zF_180 d 106 [vr 37, vu] [] S) (by decide) (by decide) h37 (by decide) (by rw [b180_99])
  rw [e]
  clear e
  obtain ⟨S, hS⟩ : ∃ Sx, S1 = Sx := ⟨_, rfl⟩
  rw [hS] at h ⊢
  clear hS
  obtain ⟨S1, e, h⟩ := qIs h 52 37 19 4 0 33 (zF_180 d 106 [vr 37, vu] [] S) (fun S => zF_180 d 113 [vr 37, vu] [] S) (by decide) (by decide) h37 (by decide) (by rw [b180_106])
  rw [e]
  clear e
  obtain ⟨S, hS⟩ : ∃ Sx, S1 = Sx := ⟨_, rfl⟩
  rw [hS] at h ⊢
  clear hS
  obtain ⟨S1, e, h⟩ := qIs h 53 37 20 4 0 33 (zF_180 d 113 [vr 37, vu] [] S) (fun S => zF_180 d 120 [vr 37, vu] [] S) (by decide) (by decide) h37 (by decide) (by rw [b180_113, b180_115])
  rw [e]
  clear e
  obtain ⟨S, hS⟩ : ∃ Sx, S1 = Sx := ⟨_, rfl⟩
  rw [hS] at h ⊢
  clear hS
  obtain ⟨S1, e, h⟩ := qIs h 54 37 21 4 4 33 (zF_180 d 120 [vr 37, vu] [] S) (fun S => zF_180 d 127 [vr 37, vu] [] S) (by decide) (by decide) h37 (by decide) (by rw [b180_120])
  rw [e]
  clear e
  obtain ⟨S, hS⟩ : ∃ Sx, S1 = Sx := ⟨_, rfl⟩
  rw [hS] at h ⊢
  clear hS
  exact ⟨S, _, rfl, h, by simp only [Int.reduceToNat]; omega⟩
theorem q_nM54 (d : Nat) (S0 S : zS) {ks : List (Int × Nat × Int)} {ps : List (Int × Int × Int)} {W : Nat} (h : qI S0 S 54 ks ps W) (h37 : (qJk ks 37).1 = 33) : ∃ S1 W1, zF_180 d 127 [vr 37, vu] [] S = zF_180 d 197 [vr 37, vu] [] S1 ∧ qI S0 S1 62 ((61, 0, 320) :: (60, 0, 320) :: (59, 0, 320) :: (58, 2, 3200) :: (57, 0, 320) :: (56, 4, 320) :: (55, 4, 320) :: (54, 0, 4) :: ks) ((37, 29, 61) :: (37, 28, 60) :: (37, 27, 59) :: (37, 26, 58) :: (37, 25, 57) :: (37, 24, 56) :: (37, 23, 55) :: (37, 22, 54) :: ps) W1 ∧ W1 ≤ W + 5124 := by
  obtain ⟨S1, e, h⟩ := qIs h 55 37 22 4 0 33 (zF_180 d 127 [vr 37, vu] [] S) (fun S => zF_180 d 134 [vr 37, vu] [] S) (by decide) (by decide) h37 (by decide) (by rw [b180_127])
  rw [e]
  clear e
  obtain ⟨S, hS⟩ : ∃ Sx, S1 = Sx := ⟨_, rfl⟩
  rw [hS] at h ⊢
  clear hS
  obtain ⟨S1, e, h⟩ := qIs h 56 37 23 320 4 33 (zF_180 d 134 [vr 37, vu] [] S) (fun S => zF_180 d 143 [vr 37, vu] [] S) (by decide) (by decide) h37 (by decide) (by rw [b180_134])
  rw [e]
  clear e
  obtain ⟨S, hS⟩ : ∃ Sx, S1 = Sx := ⟨_, rfl⟩
  rw [hS] at h ⊢
  clear hS
  obtain ⟨S1, e, h⟩ := qIs h 57 37 24 320 4 33 (zF_180 d 143 [vr 37, vu] [] S) (fun S => zF_180 d 152 [vr 37, vu] [] S) (by decide) (by decide) h37 (by decide) (by rw [b180_143])
  rw [e]
  clear e
  obtain ⟨S, hS⟩ : ∃ Sx, S1 = Sx := ⟨_, rfl⟩
  rw [hS] at h ⊢
  clear hS
  obtain ⟨S1, e, h⟩ := qIs h 58 37 25 320 0 33 (zF_180 d 152 [vr 37, vu] [] S) (fun S => zF_180 d 161 [vr 37, vu] [] S) (by decide) (by decide) h37 (by decide) (by rw [b180_152, b180_156])
  rw [e]
  clear e
  obtain ⟨S, hS⟩ : ∃ Sx, S1 = Sx := ⟨_, rfl⟩
  rw [hS] at h ⊢
  clear hS
  obtain ⟨S1, e, h⟩ := qIs h 59 37 26 3200 2 33 (zF_180 d 161 [vr 37, vu] [] S) (fun S => zF_180 d 170 [vr 37, vu] [] S) (by decide) (by decide) h37 (by decide) (by rw [b180_161])
  rw [e]
  clear e
  obtain ⟨S, hS⟩ : ∃ Sx, S1 = Sx := ⟨_, rfl⟩
  rw [hS] at h ⊢
  clear hS
  obtain ⟨S1, e, h⟩ := qIs h 60 37 27 320 0 33 (zF_180 d 170 [vr 37, vu] [] S) (fun S => zF_180 d 179 [vr 37, vu] [] S) (by decide) (by decide) h37 (by decide) (by rw [b180_170])
  rw [e]
  clear e
  obtain ⟨S, hS⟩ : ∃ Sx, S1 = Sx := ⟨_, rfl⟩
  rw [hS] at h ⊢
  clear hS
  obtain ⟨S1, e, h⟩ := qIs h 61 37 28 320 0 33 (zF_180 d 179 [vr 37, vu] [] S) (fun S => zF_180 d 188 [vr 37, vu] [] S) (by decide) (by decide) h37 (by decide) (by rw [b180_179])
  rw [e]
  clear e
  obtain ⟨S, hS⟩ : ∃ Sx, S1 = Sx := ⟨_, rfl⟩
  rw [hS] at h ⊢
  clear hS
  obtain ⟨S1, e, h⟩ := qIs h 62 37 29 320 0 33 (zF_180 d 188 [vr 37, vu] [] S) (fun S => zF_180 d 197 [vr 37, vu] [] S) (by decide) (by decide) h37 (by decide) (by rw [b180_188])
  rw [e]
  clear e
  obtain ⟨S, hS⟩ : ∃ Sx, S1 = Sx := ⟨_, rfl⟩
  rw [hS] at h ⊢
  clear hS
  exact ⟨S, _, rfl, h, by simp only [Int.reduceToNat]; omega⟩
theorem q_nM62 (d : Nat) (S0 S : zS) {ks : List (Int × Nat × Int)} {ps : List (Int × Int × Int)} {W : Nat} (h : qI S0 S 62 ks ps W) (h37 : (qJk ks 37).1 = 33) : ∃ S1 W1, zF_180 d 197 [vr 37, vu] [] S = zF_180 d 260 [vr 37, vu] [] S1 ∧ qI S0 S1 70 ((69, 2, 200) :: (68, 0, 32) :: (67, 0, 24) :: (66, 0, 16) :: (65, 0, 16) :: (64, 2, 10) :: (63, 0, 4) :: (62, 0, 4) :: ks) ((37, 48, 69) :: (37, 47, 68) :: (37, 44, 67) :: (37, 41, 66) :: (37, 39, 65) :: (37, 35, 64) :: (37, 31, 63) :: (37, 30, 62) :: ps) W1 ∧ W1 ≤ W + 306 := by
  obtain ⟨S1, e, h⟩ := qIs h 63 37 30 4 0 33 (zF_180 d 197 [vr 37, vu] [] S) (fun S => zF_180 d 204 [vr 37, vu] [] S) (by decide) (by decide) h37 (by decide) (by rw [b180_197, b180_199])
  rw [e]
  clear e
  obtain ⟨S, hS⟩ : ∃ Sx, S1 = Sx := ⟨_, rfl⟩
  rw [hS] at h ⊢
  clear hS
  obtain ⟨S1, e, h⟩ := qIs h 64 37 31 4 0 33 (zF_180 d 204 [vr 37, vu] [] S) (fun S => zF_180 d 211 [vr 37, vu] [] S) (by decide) (by decide) h37 (by decide) (by rw [b180_204])
  rw [e]
  clear e
  obtain ⟨S, hS⟩ : ∃ Sx, S1 = Sx := ⟨_, rfl⟩
  rw [hS] at h ⊢
  clear hS
  obtain ⟨S1, e, h⟩ := qIs h 65 37 35 10 2 33 (zF_180 d 211 [vr 37, vu] [] S) (fun S => zF_180 d 219 [vr 37, vu] [] S) (by decide) (by decide) h37 (by decide) (by rw [b180_211])
  rw [e]
  clear e
  obtain ⟨S, hS⟩ : ∃ Sx, S1 = Sx := ⟨_, rfl⟩
  rw [hS] at h ⊢
  clear hS
  obtain ⟨S1, e, h⟩ := qIs h 66 37 39 16 0 33 (zF_180 d 219 [vr 37, vu] [] S) (fun S => zF_180 d 227 [vr 37, vu] [] S) (by decide) (by decide) h37 (by decide) (by rw [b180_219])
  rw [e]
  clear e
  obtain ⟨S, hS⟩ : ∃ Sx, S1 = Sx := ⟨_, rfl⟩
  rw [hS] at h ⊢
  clear hS
  obtain ⟨S1, e, h⟩ := qIs h 67 37 41 16 0 33 (zF_180 d 227 [vr 37, vu] [] S) (fun S => zF_180 d 235 [vr 37, vu] [] S) (by decide) (by decide) h37 (by decide) (by rw [b180_227])
  rw [e]
  clear e
  obtain ⟨S, hS⟩ : ∃ Sx, S1 = Sx := ⟨_, rfl⟩
  rw [hS] at h ⊢
  clear hS
  obtain ⟨S1, e, h⟩ := qIs h 68 37 44 24 0 33 (zF_180 d 235 [vr 37, vu] [] S) (fun S => zF_180 d 243 [vr 37, vu] [] S) (by decide) (by decide) h37 (by decide) (by rw [b180_235, b180_238])
  rw [e]
  clear e
  obtain ⟨S, hS⟩ : ∃ Sx, S1 = Sx := ⟨_, rfl⟩
  rw [hS] at h ⊢
  clear hS
  obtain ⟨S1, e, h⟩ := qIs h 69 37 47 32 0 33 (zF_180 d 243 [vr 37, vu] [] S) (fun S => zF_180 d 251 [vr 37, vu] [] S) (by decide) (by decide) h37 (by decide) (by rw [b180_243])
  rw [e]
  clear e
  obtain ⟨S, hS⟩ : ∃ Sx, S1 = Sx := ⟨_, rfl⟩
  rw [hS] at h ⊢
  clear hS
  obtain ⟨S1, e, h⟩ := qIs h 70 37 48 200 2 33 (zF_180 d 251 [vr 37, vu] [] S) (fun S => zF_180 d 260 [vr 37, vu] [] S) (by decide) (by decide) h37 (by decide) (by rw [b180_251])
  rw [e]
  clear e
  obtain ⟨S, hS⟩ : ∃ Sx, S1 = Sx := ⟨_, rfl⟩
  rw [hS] at h ⊢
  clear hS
  exact ⟨S, _, rfl, h, by simp only [Int.reduceToNat]; omega⟩
theorem q_nM70 (d : Nat) (S0 S : zS) {ks : List (Int × Nat × Int)} {ps : List (Int × Int × Int)} {W : Nat} (h : qI S0 S 70 ks ps W) (h37 : (qJk ks 37).1 = 33) : ∃ S1 W1, zF_180 d 260 [vr 37, vu] [] S = zF_180 d 331 [vr 37, vu] [] S1 ∧ qI S0 S1 78 ((77, 0, 80) :: (76, 0, 80) :: (75, 0, 80) :: (74, 0, 80) :: (73, 0, 80) :: (72, 0, 400) :: (71, 0, 16000) :: (70, 1, 32) :: ks) ((37, 59, 77) :: (37, 58, 76) :: (37, 57, 75) :: (37, 56, 74) :: (37, 55, 73) :: (37, 54, 72) :: (37, 52, 71) :: (37, 50, -1) :: (37, 49, 70) :: ps) W1 ∧ W1 ≤ W + 16832 := by
  obtain ⟨S1, e, h⟩ := qIs h 71 37 49 32 1 33 (zF_180 d 260 [vr 37, vu] [] S) (fun S => zF_180 d 268 [vr 37, vu] [] S) (by decide) (by decide) h37 (by decide) (by rw [b180_260])
  rw [e]
  clear e
  obtain ⟨S, hS⟩ : ∃ Sx, S1 = Sx := ⟨_, rfl⟩
  rw [hS] at h ⊢
  clear hS
  have g := h
  have h := qI_pu h 37 50 (-1) (by decide)
  obtain ⟨S1, e, h⟩ := qIs h 72 37 52 16000 0 33 (zF_180 d 268 [vr 37, vu] [] S) (fun S => zF_180 d 282 [vr 37, vu] [] S) (by decide) (by decide) h37 (by decide) (by rw [b180_268, zchk_pos (show (zk S 37).1 = 33 from qI_k1 g (by decide) h37), b180_279])
  rw [e]
  clear e
  clear g
  obtain ⟨S, hS⟩ : ∃ Sx, S1 = Sx := ⟨_, rfl⟩
  rw [hS] at h ⊢
  clear hS
  obtain ⟨S1, e, h⟩ := qIs h 73 37 54 400 0 33 (zF_180 d 282 [vr 37, vu] [] S) (fun S => zF_180 d 291 [vr 37, vu] [] S) (by decide) (by decide) h37 (by decide) (by rw [b180_282])
  rw [e]
  clear e
  obtain ⟨S, hS⟩ : ∃ Sx, S1 = Sx := ⟨_, rfl⟩
  rw [hS] at h ⊢
  clear hS
  obtain ⟨S1, e, h⟩ := qIs h 74 37 55 80 0 33 (zF_180 d 291 [vr 37, vu] [] S) (fun S => zF_180 d 299 [vr 37, vu] [] S) (by decide) (by decide) h37 (by decide) (by rw [b180_291])
  rw [e]
  clear e
  obtain ⟨S, hS⟩ : ∃ Sx, S1 = Sx := ⟨_, rfl⟩
  rw [hS] at h ⊢
  clear hS
  obtain ⟨S1, e, h⟩ := qIs h 75 37 56 80 0 33 (zF_180 d 299 [vr 37, vu] [] S) (fun S => zF_180 d 307 [vr 37, vu] [] S) (by decide) (by decide) h37 (by decide) (by rw [b180_299, b180_300])
  rw [e]
  clear e
  obtain ⟨S, hS⟩ : ∃ Sx, S1 = Sx := ⟨_, rfl⟩
  rw [hS] at h ⊢
  clear hS
  obtain ⟨S1, e, h⟩ := qIs h 76 37 57 80 0 33 (zF_180 d 307 [vr 37, vu] [] S) (fun S => zF_180 d 315 [vr 37, vu] [] S) (by decide) (by decide) h37 (by decide) (by rw [b180_307])
  rw [e]
  clear e
  obtain ⟨S, hS⟩ : ∃ Sx, S1 = Sx := ⟨_, rfl⟩
  rw [hS] at h ⊢
  clear hS
  obtain ⟨S1, e, h⟩ := qIs h 77 37 58 80 0 33 (zF_180 d 315 [vr 37, vu] [] S) (fun S => zF_180 d 323 [vr 37, vu] [] S) (by decide) (by decide) h37 (by decide) (by rw [b180_315, b180_320])
  rw [e]
  clear e
  obtain ⟨S, hS⟩ : ∃ Sx, S1 = Sx := ⟨_, rfl⟩
  rw [hS] at h ⊢
  clear hS
  obtain ⟨S1, e, h⟩ := qIs h 78 37 59 80 0 33 (zF_180 d 323 [vr 37, vu] [] S) (fun S => zF_180 d 331 [vr 37, vu] [] S) (by decide) (by decide) h37 (by decide) (by rw [b180_323])
  rw [e]
  clear e
  obtain ⟨S, hS⟩ : ∃ Sx, S1 = Sx := ⟨_, rfl⟩
  rw [hS] at h ⊢
  clear hS
  exact ⟨S, _, rfl, h, by simp only [Int.reduceToNat]; omega⟩
theorem q_nM78 (d : Nat) (S0 S : zS) {ks : List (Int × Nat × Int)} {ps : List (Int × Int × Int)} {W : Nat} (h : qI S0 S 78 ks ps W) (h37 : (qJk ks 37).1 = 33) : ∃ S1 W1, zF_180 d 331 [vr 37, vu] [] S = zF_180 d 396 [vr 37, vu] [] S1 ∧ qI S0 S1 86 ((85, 4, 3200) :: (84, 0, 20) :: (83, 0, 120) :: (82, 0, 20) :: (81, 0, 18) :: (80, 0, 80) :: (79, 4, 80) :: (78, 0, 80) :: ks) ((37, 69, 85) :: (37, 68, 84) :: (37, 67, 83) :: (37, 66, 82) :: (37, 64, 81) :: (37, 62, 80) :: (37, 61, 79) :: (37, 60, 78) :: ps) W1 ∧ W1 ≤ W + 3618 := by
  obtain ⟨S1, e, h⟩ := qIs h 79 37 60 80 0 33 (zF_180 d 331 [vr 37, vu] [] S) (fun S => zF_180 d 339 [vr 37, vu] [] S) (by decide) (by decide) h37 (by decide) (by rw [b180_331])
  rw [e]
  clear e
  obtain ⟨S, hS⟩ : ∃ Sx, S1 = Sx := ⟨_, rfl⟩
  rw [hS] at h ⊢
  clear hS
  obtain ⟨S1, e, h⟩ := qIs h 80 37 61 80 4 33 (zF_180 d 339 [vr 37, vu] [] S) (fun S => zF_180 d 347 [vr 37, vu] [] S) (by decide) (by decide) h37 (by decide) (by rw [b180_339, b180_340])
  rw [e]
  clear e
  obtain ⟨S, hS⟩ : ∃ Sx, S1 = Sx := ⟨_, rfl⟩
  rw [hS] at h ⊢
  clear hS
  obtain ⟨S1, e, h⟩ := qIs h 81 37 62 80 0 33 (zF_180 d 347 [vr 37, vu] [] S) (fun S => zF_180 d 355 [vr 37, vu] [] S) (by decide) (by decide) h37 (by decide) (by rw [b180_347])
  rw [e]
  clear e
  obtain ⟨S, hS⟩ : ∃ Sx, S1 = Sx := ⟨_, rfl⟩
  rw [hS] at h ⊢
  clear hS
  obtain ⟨S1, e, h⟩ := qIs h 82 37 64 18 0 33 (zF_180 d 355 [vr 37, vu] [] S) (fun S => zF_180 d 363 [vr 37, vu] [] S) (by decide) (by decide) h37 (by decide) (by rw [b180_355, b180_360])
  rw [e]
  clear e
  obtain ⟨S, hS⟩ : ∃ Sx, S1 = Sx := ⟨_, rfl⟩
  rw [hS] at h ⊢
  clear hS
  obtain ⟨S1, e, h⟩ := qIs h 83 37 66 20 0 33 (zF_180 d 363 [vr 37, vu] [] S) (fun S => zF_180 d 371 [vr 37, vu] [] S) (by decide) (by decide) h37 (by decide) (by rw [b180_363])
  rw [e]
  clear e
  obtain ⟨S, hS⟩ : ∃ Sx, S1 = Sx := ⟨_, rfl⟩
  rw [hS] at h ⊢
  clear hS
  obtain ⟨S1, e, h⟩ := qIs h 84 37 67 120 0 33 (zF_180 d 371 [vr 37, vu] [] S) (fun S => zF_180 d 379 [vr 37, vu] [] S) (by decide) (by decide) h37 (by decide) (by rw [b180_371])
  rw [e]
  clear e
  obtain ⟨S, hS⟩ : ∃ Sx, S1 = Sx := ⟨_, rfl⟩
  rw [hS] at h ⊢
  clear hS
  obtain ⟨S1, e, h⟩ := qIs h 85 37 68 20 0 33 (zF_180 d 379 [vr 37, vu] [] S) (fun S => zF_180 d 387 [vr 37, vu] [] S) (by decide) (by decide) h37 (by decide) (by rw [b180_379, b180_380])
  rw [e]
  clear e
  obtain ⟨S, hS⟩ : ∃ Sx, S1 = Sx := ⟨_, rfl⟩
  rw [hS] at h ⊢
  clear hS
  obtain ⟨S1, e, h⟩ := qIs h 86 37 69 3200 4 33 (zF_180 d 387 [vr 37, vu] [] S) (fun S => zF_180 d 396 [vr 37, vu] [] S) (by decide) (by decide) h37 (by decide) (by rw [b180_387])
  rw [e]
  clear e
  obtain ⟨S, hS⟩ : ∃ Sx, S1 = Sx := ⟨_, rfl⟩
  rw [hS] at h ⊢
  clear hS
  exact ⟨S, _, rfl, h, by simp only [Int.reduceToNat]; omega⟩
theorem q_nM86 (d : Nat) (S0 S : zS) {ks : List (Int × Nat × Int)} {ps : List (Int × Int × Int)} {W : Nat} (h : qI S0 S 86 ks ps W) (h37 : (qJk ks 37).1 = 33) : ∃ S1 W1, zF_180 d 396 [vr 37, vu] [] S = zF_180 d 466 [vr 37, vu] [] S1 ∧ qI S0 S1 94 ((93, 0, 30) :: (92, 0, 6) :: (91, 0, 18) :: (90, 0, 6) :: (89, 0, 16000) :: (88, 0, 20) :: (87, 0, 20) :: (86, 0, 20) :: ks) ((37, 81, 93) :: (37, 79, 92) :: (37, 78, 91) :: (37, 77, 90) :: (37, 75, -1) :: (37, 74, 89) :: (37, 72, 88) :: (37, 71, 87) :: (37, 70, 86) :: ps) W1 ∧ W1 ≤ W + 16120 := by
  obtain ⟨S1, e, h⟩ := qIs h 87 37 70 20 0 33 (zF_180 d 396 [vr 37, vu] [] S) (fun S => zF_180 d 404 [vr 37, vu] [] S) (by decide) (by decide) h37 (by decide) (by rw [b180_396, b180_401])
  rw [e]
  clear e
  obtain ⟨S, hS⟩ : ∃ Sx, S1 = Sx := ⟨_, rfl⟩
  rw [hS] at h ⊢
  clear hS
  obtain ⟨S1, e, h⟩ := qIs h 88 37 71 20 0 33 (zF_180 d 404 [vr 37, vu] [] S) (fun S => zF_180 d 412 [vr 37, vu] [] S) (by decide) (by decide) h37 (by decide) (by rw [b180_404])
  rw [e]
  clear e
  obtain ⟨S, hS⟩ : ∃ Sx, S1 = Sx := ⟨_, rfl⟩
  rw [hS] at h ⊢
  clear hS
  obtain ⟨S1, e, h⟩ := qIs h 89 37 72 20 0 33 (zF_180 d 412 [vr 37, vu] [] S) (fun S => zF_180 d 420 [vr 37, vu] [] S) (by decide) (by decide) h37 (by decide) (by rw [b180_412])
  rw [e]
  clear e
  obtain ⟨S, hS⟩ : ∃ Sx, S1 = Sx := ⟨_, rfl⟩
  rw [hS] at h ⊢
  clear hS
  obtain ⟨S1, e, h⟩ := qIs h 90 37 74 16000 0 33 (zF_180 d 420 [vr 37, vu] [] S) (fun S => zF_180 d 429 [vr 37, vu] [] S) (by decide) (by decide) h37 (by decide) (by rw [b180_420, b180_421])
  rw [e]
  clear e
  obtain ⟨S, hS⟩ : ∃ Sx, S1 = Sx := ⟨_, rfl⟩
  rw [hS] at h ⊢
  clear hS
  have g := h
  have h := qI_pu h 37 75 (-1) (by decide)
  obtain ⟨S1, e, h⟩ := qIs h 91 37 77 6 0 33 (zF_180 d 429 [vr 37, vu] [] S) (fun S => zF_180 d 442 [vr 37, vu] [] S) (by decide) (by decide) h37 (by decide) (by rw [b180_429, zchk_pos (show (zk S 37).1 = 33 from qI_k1 g (by decide) h37)])
  rw [e]
  clear e
  clear g
  obtain ⟨S, hS⟩ : ∃ Sx, S1 = Sx := ⟨_, rfl⟩
  rw [hS] at h ⊢
  clear hS
  obtain ⟨S1, e, h⟩ := qIs h 92 37 78 18 0 33 (zF_180 d 442 [vr 37, vu] [] S) (fun S => zF_180 d 450 [vr 37, vu] [] S) (by decide) (by decide) h37 (by decide) (by rw [b180_442])
  rw [e]
  clear e
  obtain ⟨S, hS⟩ : ∃ Sx, S1 = Sx := ⟨_, rfl⟩
  rw [hS] at h ⊢
  clear hS
  obtain ⟨S1, e, h⟩ := qIs h 93 37 79 6 0 33 (zF_180 d 450 [vr 37, vu] [] S) (fun S => zF_180 d 458 [vr 37, vu] [] S) (by decide) (by decide) h37 (by decide) (by rw [b180_450])
  rw [e]
  clear e
  obtain ⟨S, hS⟩ : ∃ Sx, S1 = Sx := ⟨_, rfl⟩
  rw [hS] at h ⊢
  clear hS
  obtain ⟨S1, e, h⟩ := qIs h 94 37 81 30 0 33 (zF_180 d 458 [vr 37, vu] [] S) (fun S => zF_180 d 466 [vr 37, vu] [] S) (by decide) (by decide) h37 (by decide) (by rw [b180_458, b180_461])
  rw [e]
  clear e
  obtain ⟨S, hS⟩ : ∃ Sx, S1 = Sx := ⟨_, rfl⟩
  rw [hS] at h ⊢
  clear hS
  exact ⟨S, _, rfl, h, by simp only [Int.reduceToNat]; omega⟩
theorem q_nM94 (d : Nat) (S0 S : zS) {ks : List (Int × Nat × Int)} {ps : List (Int × Int × Int)} {W : Nat} (h : qI S0 S 94 ks ps W) (h37 : (qJk ks 37).1 = 33) : ∃ S1 W1, zF_180 d 466 [vr 37, vu] [] S = zF_180 d 533 [vr 37, vu] [] S1 ∧ qI S0 S1 102 ((101, 0, 200) :: (100, 0, 400) :: (99, 2, 128) :: (98, 0, 64) :: (97, 0, 32) :: (96, 0, 32) :: (95, 2, 32) :: (94, 0, 30) :: ks) ((37, 93, 101) :: (37, 91, 100) :: (37, 89, 99) :: (37, 87, 98) :: (37, 86, 97) :: (37, 85, 96) :: (37, 84, 95) :: (37, 82, 94) :: ps) W1 ∧ W1 ≤ W + 918 := by
  obtain ⟨S1, e, h⟩ := qIs h 95 37 82 30 0 33 (zF_180 d 466 [vr 37, vu] [] S) (fun S => zF_180 d 474 [vr 37, vu] [] S) (by decide) (by decide) h37 (by decide) (by rw [b180_466])
  rw [e]
  clear e
  obtain ⟨S, hS⟩ : ∃ Sx, S1 = Sx := ⟨_, rfl⟩
  rw [hS] at h ⊢
  clear hS
  obtain ⟨S1, e, h⟩ := qIs h 96 37 84 32 2 33 (zF_180 d 474 [vr 37, vu] [] S) (fun S => zF_180 d 482 [vr 37, vu] [] S) (by decide) (by decide) h37 (by decide) (by rw [b180_474])
  rw [e]
  clear e
  obtain ⟨S, hS⟩ : ∃ Sx, S1 = Sx := ⟨_, rfl⟩
  rw [hS] at h ⊢
  clear hS
  obtain ⟨S1, e, h⟩ := qIs h 97 37 85 32 0 33 (zF_180 d 482 [vr 37, vu] [] S) (fun S => zF_180 d 490 [vr 37, vu] [] S) (by decide) (by decide) h37 (by decide) (by rw [b180_482])
  rw [e]
  clear e
  obtain ⟨S, hS⟩ : ∃ Sx, S1 = Sx := ⟨_, rfl⟩
  rw [hS] at h ⊢
  clear hS
  obtain ⟨S1, e, h⟩ := qIs h 98 37 86 32 0 33 (zF_180 d 490 [vr 37, vu] [] S) (fun S => zF_180 d 498 [vr 37, vu] [] S) (by decide) (by decide) h37 (by decide) (by rw [b180_490])
  rw [e]
  clear e
  obtain ⟨S, hS⟩ : ∃ Sx, S1 = Sx := ⟨_, rfl⟩
  rw [hS] at h ⊢
  clear hS
  obtain ⟨S1, e, h⟩ := qIs h 99 37 87 64 0 33 (zF_180 d 498 [vr 37, vu] [] S) (fun S => zF_180 d 506 [vr 37, vu] [] S) (by decide) (by decide) h37 (by decide) (by rw [b180_498, b180_501])
  rw [e]
  clear e
  obtain ⟨S, hS⟩ : ∃ Sx, S1 = Sx := ⟨_, rfl⟩
  rw [hS] at h ⊢
  clear hS
  obtain ⟨S1, e, h⟩ := qIs h 100 37 89 128 2 33 (zF_180 d 506 [vr 37, vu] [] S) (fun S => zF_180 d 515 [vr 37, vu] [] S) (by decide) (by decide) h37 (by decide) (by rw [b180_506])
  rw [e]
  clear e
  obtain ⟨S, hS⟩ : ∃ Sx, S1 = Sx := ⟨_, rfl⟩
  rw [hS] at h ⊢
  clear hS
  obtain ⟨S1, e, h⟩ := qIs h 101 37 91 400 0 33 (zF_180 d 515 [vr 37, vu] [] S) (fun S => zF_180 d 524 [vr 37, vu] [] S) (by decide) (by decide) h37 (by decide) (by rw [b180_515])
  rw [e]
  clear e
  obtain ⟨S, hS⟩ : ∃ Sx, S1 = Sx := ⟨_, rfl⟩
  rw [hS] at h ⊢
  clear hS
  obtain ⟨S1, e, h⟩ := qIs h 102 37 93 200 0 33 (zF_180 d 524 [vr 37, vu] [] S) (fun S => zF_180 d 533 [vr 37, vu] [] S) (by decide) (by decide) h37 (by decide) (by rw [b180_524])
  rw [e]
  clear e
  obtain ⟨S, hS⟩ : ∃ Sx, S1 = Sx := ⟨_, rfl⟩
  rw [hS] at h ⊢
  clear hS
  exact ⟨S, _, rfl, h, by simp only [Int.reduceToNat]; omega⟩
theorem q_newM (d : Nat) (S0 S : zS) {ks : List (Int × Nat × Int)} {ps : List (Int × Int × Int)} {W : Nat} (h : qI S0 S 37 ks ps W) : ∃ S1 W1, zD (d + 1) 180 [vr 37] (zalloc S 33 0 95) = zF_180 d 535 [vr 37, vi 0] [] S1 ∧ qI S0 S1 102 ((101, 0, 200) :: (100, 0, 400) :: (99, 2, 128) :: (98, 0, 64) :: (97, 0, 32) :: (96, 0, 32) :: (95, 2, 32) :: (94, 0, 30) :: (93, 0, 30) :: (92, 0, 6) :: (91, 0, 18) :: (90, 0, 6) :: (89, 0, 16000) :: (88, 0, 20) :: (87, 0, 20) :: (86, 0, 20) :: (85, 4, 3200) :: (84, 0, 20) :: (83, 0, 120) :: (82, 0, 20) :: (81, 0, 18) :: (80, 0, 80) :: (79, 4, 80) :: (78, 0, 80) :: (77, 0, 80) :: (76, 0, 80) :: (75, 0, 80) :: (74, 0, 80) :: (73, 0, 80) :: (72, 0, 400) :: (71, 0, 16000) :: (70, 1, 32) :: (69, 2, 200) :: (68, 0, 32) :: (67, 0, 24) :: (66, 0, 16) :: (65, 0, 16) :: (64, 2, 10) :: (63, 0, 4) :: (62, 0, 4) :: (61, 0, 320) :: (60, 0, 320) :: (59, 0, 320) :: (58, 2, 3200) :: (57, 0, 320) :: (56, 4, 320) :: (55, 4, 320) :: (54, 0, 4) :: (53, 4, 4) :: (52, 0, 4) :: (51, 0, 4) :: (50, 0, 4) :: (49, 0, 4) :: (48, 0, 12) :: (47, 0, 12) :: (46, 2, 120) :: (45, 0, 72) :: (44, 0, 72) :: (43, 0, 72) :: (42, 0, 72) :: (41, 0, 72) :: (40, 2, 432) :: (39, 0, 3) :: (38, 2, 60) :: (37, 33, 0) :: ks) ((37, 93, 101) :: (37, 91, 100) :: (37, 89, 99) :: (37, 87, 98) :: (37, 86, 97) :: (37, 85, 96) :: (37, 84, 95) :: (37, 82, 94) :: (37, 81, 93) :: (37, 79, 92) :: (37, 78, 91) :: (37, 77, 90) :: (37, 75, -1) :: (37, 74, 89) :: (37, 72, 88) :: (37, 71, 87) :: (37, 70, 86) :: (37, 69, 85) :: (37, 68, 84) :: (37, 67, 83) :: (37, 66, 82) :: (37, 64, 81) :: (37, 62, 80) :: (37, 61, 79) :: (37, 60, 78) :: (37, 59, 77) :: (37, 58, 76) :: (37, 57, 75) :: (37, 56, 74) :: (37, 55, 73) :: (37, 54, 72) :: (37, 52, 71) :: (37, 50, -1) :: (37, 49, 70) :: (37, 48, 69) :: (37, 47, 68) :: (37, 44, 67) :: (37, 41, 66) :: (37, 39, 65) :: (37, 35, 64) :: (37, 31, 63) :: (37, 30, 62) :: (37, 29, 61) :: (37, 28, 60) :: (37, 27, 59) :: (37, 26, 58) :: (37, 25, 57) :: (37, 24, 56) :: (37, 23, 55) :: (37, 22, 54) :: (37, 21, 53) :: (37, 20, 52) :: (37, 19, 51) :: (37, 18, 50) :: (37, 17, 49) :: (37, 15, 48) :: (37, 14, 47) :: (37, 13, 46) :: (37, 11, 45) :: (37, 10, 44) :: (37, 9, 43) :: (37, 8, 42) :: (37, 7, 41) :: (37, 6, 40) :: (37, 5, 39) :: (37, 1, 38) :: ps) W1 ∧ W1 ≤ W + 44032 := by
  have h := qI_al (N' := 38) h 33 0 95 (by decide)
  obtain ⟨S, hS⟩ : ∃ Sx, zalloc S 33 0 95 = Sx := ⟨_, rfl⟩
  rw [hS] at h ⊢
  clear hS
  rw [zD_180]
  obtain ⟨S, W38, e, h, hw38⟩ := q_nM38 d S0 S h (by rfl)
  rw [e]
  clear e
  obtain ⟨S, W46, e, h, hw46⟩ := q_nM46 d S0 S h (by rfl)
  rw [e]
  clear e
  obtain ⟨S, W54, e, h, hw54⟩ := q_nM54 d S0 S h (by rfl)
  rw [e]
  clear e
  obtain ⟨S, W62, e, h, hw62⟩ := q_nM62 d S0 S h (by rfl)
  rw [e]
  clear e
  obtain ⟨S, W70, e, h, hw70⟩ := q_nM70 d S0 S h (by rfl)
  rw [e]
  clear e
  obtain ⟨S, W78, e, h, hw78⟩ := q_nM78 d S0 S h (by rfl)
  rw [e]
  clear e
  obtain ⟨S, W86, e, h, hw86⟩ := q_nM86 d S0 S h (by rfl)
  rw [e]
  clear e
  obtain ⟨S, W94, e, h, hw94⟩ := q_nM94 d S0 S h (by rfl)
  rw [e]
  clear e
  exact ⟨S, _, by rw [b180_533], h, by omega⟩
theorem q_pinsM (d : Nat) (S0 : zS) (ks : List (Int × Nat × Int)) (ps : List (Int × Int × Int)) (W : Nat) (k37 : qJk ks 37 = (33, 0)) (k81 : qJk ks 81 = (0, 18)) (p64 : qlm ps 37 64 = 81) : ∀ (f i : Nat) (S : zS) (qs : List (Int × Int × Int)), i + f = 18 → qI S0 S 102 ks qs W → (∀ a p, qlm qs a p = if a = 81 ∧ 0 ≤ p ∧ p < i then 1000 else qlm ps a p) →
    ∃ S1 qs1, zF_180 d 535 [vr 37, vi i] [] S = some (.inl none, S1) ∧ qI S0 S1 102 ks qs1 W ∧ ∀ a p, qlm qs1 a p = if a = 81 ∧ 0 ≤ p ∧ p < 18 then 1000 else qlm ps a p := by
  intro f
  induction f with
  | zero =>
    intro i S qs hi h hq
    obtain rfl : i = 18 := by omega
    refine ⟨S, qs, ?_, h, hq⟩
    rw [b180_535, if_neg (by decide), b180_556]
  | succ f ih =>
    intro i S qs hi h hq
    have m64 : zm S 37 64 = 81 := by rw [qI_m h (by decide) (hq 37 64), if_neg (by omega), p64]
    have a37 : (zk S 37).1 = 33 := by rw [qI_k h (by decide) k37]
    have a81 : zk S 81 = (0, 18) := qI_k h (by decide) k81
    have h2 := qI_pu h 81 i 1000 (by decide)
    obtain ⟨S1, qs1, r, h3, h4⟩ := ih (i + 1) _ _ (by omega) h2 (fun a p => by
      rw [qlm]
      by_cases c : a = 81 ∧ p = (i : Int)
      · rw [if_pos c, if_pos (by omega)]
      · rw [if_neg c, hq]
        by_cases c2 : a = 81 ∧ 0 ≤ p ∧ p < (i : Int)
        · rw [if_pos c2, if_pos (by omega)]
        · rw [if_neg c2, if_neg (by omega)])
    refine ⟨S1, qs1, ?_, h3, h4⟩
    rw [b180_535, if_pos (by omega), b180_541, zchk_pos a37, m64, a81, zchk_pos (by show (0 : Nat) = 0 ∧ 0 ≤ (i : Int) ∧ (i : Int) < 18; omega), q32 (by omega)]
    exact r
theorem q_pinsN (d : Nat) {S0 S : zS} {ks : List (Int × Nat × Int)} {ps : List (Int × Int × Int)} {W : Nat} (h : qI S0 S 102 ks ps W) (k37 : qJk ks 37 = (33, 0)) (k81 : qJk ks 81 = (0, 18)) (p64 : qlm ps 37 64 = 81) :
    ∃ S1 qs1, zF_180 d 535 [vr 37, vi 0] [] S = some (.inl none, S1) ∧ qI S0 S1 102 ks qs1 W ∧ ∀ a p, qlm qs1 a p = if a = 81 ∧ 0 ≤ p ∧ p < 18 then 1000 else qlm ps a p :=
  q_pinsM d S0 ks ps W k37 k81 p64 18 0 S ps (by decide) h (fun a p => by rw [if_neg (by omega)])
/-- the law's start: what both are made of -/
def qksT : List (Int × Nat × Int) := [(102, 1, 1), (101, 0, 200), (100, 0, 400), (99, 2, 128), (98, 0, 64), (97, 0, 32), (96, 0, 32), (95, 2, 32), (94, 0, 30), (93, 0, 30), (92, 0, 6), (91, 0, 18), (90, 0, 6), (89, 0, 16000), (88, 0, 20), (87, 0, 20), (86, 0, 20), (85, 4, 3200), (84, 0, 20), (83, 0, 120), (82, 0, 20), (81, 0, 18), (80, 0, 80), (79, 4, 80), (78, 0, 80), (77, 0, 80), (76, 0, 80), (75, 0, 80), (74, 0, 80), (73, 0, 80), (72, 0, 400), (71, 0, 16000), (70, 1, 32), (69, 2, 200), (68, 0, 32), (67, 0, 24), (66, 0, 16), (65, 0, 16), (64, 2, 10), (63, 0, 4), (62, 0, 4), (61, 0, 320), (60, 0, 320), (59, 0, 320), (58, 2, 3200), (57, 0, 320), (56, 4, 320), (55, 4, 320), (54, 0, 4), (53, 4, 4), (52, 0, 4), (51, 0, 4), (50, 0, 4), (49, 0, 4), (48, 0, 12), (47, 0, 12), (46, 2, 120), (45, 0, 72), (44, 0, 72), (43, 0, 72), (42, 0, 72), (41, 0, 72), (40, 2, 432), (39, 0, 3), (38, 2, 60), (37, 33, 0), (36, 0, 160), (35, 0, 24), (34, 0, 24), (33, 0, 24), (32, 2, 24), (31, 2, 160), (30, 26, 0), (29, 0, 160), (28, 0, 24), (27, 0, 24), (26, 0, 24), (25, 2, 24), (24, 2, 160), (23, 26, 0), (22, 0, 4), (21, 0, 16), (20, 31, 0), (19, 0, 10), (18, 28, 0), (17, 0, 30), (16, 0, 30), (15, 30, 0), (14, 10, 6), (13, 9, 20), (9, 8, 3), (10, 0, 6), (11, 0, 6), (12, 0, 6), (8, 7, 4), (7, 6, 12), (6, 5, 3), (5, 2, 60), (4, 29, 0), (3, 32, 0)]
def qpsC0 : List (Int × Int × Int) := [(3, 17, 30), (30, 10, 36), (30, 9, -1), (30, 7, 35), (30, 6, 34), (30, 5, 33), (30, 4, 32), (30, 0, 31), (3, 16, 23), (23, 10, 29), (23, 9, -1), (23, 7, 28), (23, 6, 27), (23, 5, 26), (23, 4, 25), (23, 0, 24), (3, 15, 20), (20, 4, 22), (20, 0, 21), (3, 14, 18), (18, 0, 19), (3, 12, 15), (15, 1, 17), (15, 0, 16), (3, 10, 14), (3, 8, 13), (3, 7, 9), (9, 0, 10), (9, 1, 11), (9, 2, 12), (3, 5, 8), (3, 3, 7), (3, 1, 6), (3, 0, 4), (4, 0, 5)]
def qpsM0 : List (Int × Int × Int) := [(37, 93, 101), (37, 91, 100), (37, 89, 99), (37, 87, 98), (37, 86, 97), (37, 85, 96), (37, 84, 95), (37, 82, 94), (37, 81, 93), (37, 79, 92), (37, 78, 91), (37, 77, 90), (37, 75, -1), (37, 74, 89), (37, 72, 88), (37, 71, 87), (37, 70, 86), (37, 69, 85), (37, 68, 84), (37, 67, 83), (37, 66, 82), (37, 64, 81), (37, 62, 80), (37, 61, 79), (37, 60, 78), (37, 59, 77), (37, 58, 76), (37, 57, 75), (37, 56, 74), (37, 55, 73), (37, 54, 72), (37, 52, 71), (37, 50, -1), (37, 49, 70), (37, 48, 69), (37, 47, 68), (37, 44, 67), (37, 41, 66), (37, 39, 65), (37, 35, 64), (37, 31, 63), (37, 30, 62), (37, 29, 61), (37, 28, 60), (37, 27, 59), (37, 26, 58), (37, 25, 57), (37, 24, 56), (37, 23, 55), (37, 22, 54), (37, 21, 53), (37, 20, 52), (37, 19, 51), (37, 18, 50), (37, 17, 49), (37, 15, 48), (37, 14, 47), (37, 13, 46), (37, 11, 45), (37, 10, 44), (37, 9, 43), (37, 8, 42), (37, 7, 41), (37, 6, 40), (37, 5, 39), (37, 1, 38)]
theorem qlm_ap (p q : List (Int × Int × Int)) (a j : Int) (h : ∀ x ∈ p, ¬ (a = x.1 ∧ j = x.2.1)) : qlm (p ++ q) a j = qlm q a j := by
  induction p with
  | nil => rfl
  | cons x r ih =>
    obtain ⟨b, i, v⟩ := x
    show (if a = b ∧ j = i then v else qlm (r ++ q) a j) = _
    rw [if_neg (h (b, i, v) List.mem_cons_self)]
    exact ih fun y hy => h y (List.mem_cons_of_mem _ hy)
theorem q_start (d : Nat) (S0 : zS) (h0 : qI S0 S0 3 [] [] 0) : ∃ S1 S3 W ps, zD (d + 2) 114 [vr 3] (zalloc S0 32 0 18) = some (.inl none, S1) ∧ (zn S1 : Int) = 37 ∧ zD (d + 2) 180 [vr 37] (zalloc S1 33 0 95) = some (.inl none, S3) ∧ qI S0 (zalloc S3 1 1 1) 103 qksT ps W ∧ W ≤ 100000 ∧ ∀ a j, qlm ps a j = if a = 81 ∧ 0 ≤ j ∧ j < 18 then 1000 else if 37 ≤ a then qlm qpsM0 a j else if 10 ≤ a ∧ a < 13 ∧ 0 ≤ j ∧ j < 6 then 1000 else qlm qpsC0 a j := by
  obtain ⟨S, W, r1, h, hW⟩ := q_newC d S0 h0
  have gn0 : (zn S0 : Int) = 3 := h0.1
  obtain ⟨S1, ps1, r2, h, hp⟩ := q_pinsC (d + 1) 3 0 S0 S _ _ W (by decide) h (by rfl) (by rfl) (fun e e1 e2 => by
    have : e = 0 ∨ e = 1 ∨ e = 2 := by omega
    rcases this with rfl | rfl | rfl <;> rfl) (by rfl) (fun e e1 e2 => by
    have : e = 0 ∨ e = 1 ∨ e = 2 := by omega
    rcases this with rfl | rfl | rfl <;> rfl)
  have gn1 : (zn S1 : Int) = 37 := h.1
  have hlt := h.2.2.2.2.2.2.2.2
  obtain ⟨S2, W2, r3, h, hW2⟩ := q_newM (d + 1) S0 S1 h
  have gn2 : (zn S2 : Int) = 102 := h.1
  obtain ⟨S3, ps3, r4, h, hp3⟩ := q_pinsN (d + 1) h (by rfl) (by rfl) (by rfl)
  have gn3 : (zn S3 : Int) = 102 := h.1
  have h := qI_al (N' := 103) h 1 1 1 (by decide)
  refine ⟨S1, S3, W2 + 1, ps3, r1.trans r2, gn1, r3.trans r4, h, by omega, fun a j => ?_⟩
  · rw [hp3]
    by_cases c : a = 81 ∧ 0 ≤ j ∧ j < 18
    · rw [if_pos c, if_pos c]
    · rw [if_neg c, if_neg c]
      by_cases c2 : 37 ≤ a
      · rw [if_pos c2]
        show qlm (qpsM0 ++ ps1) a j = _
        have hz := qlm_0 (N := a) (ps := ps1) (fun p hp => by have := hlt p hp; omega) j
        have key : ∀ p : List (Int × Int × Int), qlm (p ++ ps1) a j = qlm p a j := by
          intro p
          induction p with
          | nil => exact hz
          | cons x r ih =>
            obtain ⟨b, i, v⟩ := x
            show (if a = b ∧ j = i then v else qlm (r ++ ps1) a j) = if a = b ∧ j = i then v else qlm r a j
            rw [ih]
        exact key qpsM0
      · rw [if_neg c2]
        show qlm (qpsM0 ++ ps1) a j = _
        rw [qlm_ap qpsM0 ps1 a j (fun x hx => by
          have : ∀ x ∈ qpsM0, 37 ≤ x.1 := by decide
          have := this x hx
          omega), hp]
        rfl
