/-! Signs on the tapes of two houses. -/
theorem s_type_y (d : Nat) (S : zS) (c n : Int) (h : 5 ≤ d) (hK : qK S) (hP : qP (zm S)) (hT : qRT S) (hn : 1 ≤ n ∧ n ≤ 8) (hg : ∀ j, 0 ≤ j → j < n → qst (qch c j)) (hl : zm S 37 2 + n ≤ 60) :
    ∃ m1, zD d 115 [vr 3, vl c, vi n] S = some (.inl (some (vi (zm S 37 2 + n))), qW S m1) ∧ m1 4 1 = zm S 37 2 + n := by
  obtain ⟨e, rfl, h1⟩ := qd h
  obtain ⟨t1, t2, t3, t4⟩ := hT
  obtain ⟨y1, s1⟩ := (s_typeCheck e S c n (by omega) hn n.toNat 0 vu (Int.le_refl 0) (by omega)).1 hg
  obtain ⟨m1, s2, a1, a2, a3, a4⟩ := s_typeAppend e S c n (zm S 37 2) (zm S 5) (by omega) hK hP hn (by omega) (zm S) rfl hP n.toNat 0 vu (zm S) (by omega) (by rw [t1]; omega) rfl (fun _ _ _ => rfl) (fun _ _ => rfl)
  refine ⟨m1, ?_, a1⟩
  rw [qWS] at s2
  have s2 : zF_115 e 85 [vr 3, vl c, vu, vi n, vi 0] [] S = some (.inl (some (vi (zm S 37 2 + n))), qW S m1) := s2
  simp (config := { maxSteps := 2000000 }) (disch := first | omega | (simp only [qb_in, qkW, qmW, qnW, true_and, and_true, or_self, true_or, or_true, and_self]; done) | (simp only [qb_in, qkW, qmW, qnW, true_and, and_true, or_self, true_or, or_true, and_self]; omega)) only [zD_115, b115_0, b115_5, b115_11, b115_21, b115_30, b115_36, b115_39, b115_42, b115_52, b115_72, b115_82, b115_91, b115_101, b115_104, b115_110, qcall_l, qcall_r, qretn_l, qJ_s, qJ_n, qV0, qEx, ↓qif0, ↓zchk_pos, ↓reduceIte, qput, qWW, qmW, qkW, qnW, if_neg (show ¬ n < 1 by omega), if_neg (show ¬ 8 < n by omega)]
  rw [s1, b115_58]
  simp (config := { maxSteps := 2000000 }) (disch := first | omega | (simp only [K_3 hK, K_4 hK, P_3_0 hP, P_3_0 hP, t1, qb_in, qkW, qmW, qnW, true_and, and_true, or_self, true_or, or_true, and_self]; done) | (simp only [K_3 hK, K_4 hK, P_3_0 hP, P_3_0 hP, t1, qb_in, qkW, qmW, qnW, true_and, and_true, or_self, true_or, or_true, and_self]; omega)) only [b115_0, b115_5, b115_11, b115_21, b115_30, b115_36, b115_39, b115_42, b115_52, b115_58, b115_72, b115_82, b115_91, b115_101, b115_104, b115_110, qcall_l, qcall_r, qretn_l, qJ_s, qJ_n, qV0, qEx, ↓qif0, ↓zchk_pos, ↓reduceIte, qput, qWW, qmW, qkW, qnW, K_3 hK, K_4 hK, P_3_0 hP, P_3_0 hP, t1, q32, if_neg (show ¬ 60 < zm S 37 2 + n by omega), s2]
/-- what may be said of a house with a partner whose shadow is the same -/
def hY (V W : zS) : Prop := (∃ Z a b, hH a b Z V W) ∧ qHC V ∧ qHC W ∧ hG V W
theorem hS.x {V V2 W : zS} {d y : Nat} {as : List zV} {o : zO} (h : hS d y as o V V2) (q : ∃ Z a b, hH a b Z V W) : ∃ Z a b, hH a b Z V2 W := by
  obtain ⟨Z, a, b, hh⟩ := q
  obtain ⟨Z1, -, h1, -⟩ := h Z a b W hh
  exact ⟨Z1, a, b, h1⟩
theorem hX.symm {V W : zS} (q : ∃ Z a b, hH a b Z V W) : ∃ Z a b, hH a b Z W V := by
  obtain ⟨Z, a, b, h⟩ := q
  exact ⟨Z, b, a, h.symm⟩
theorem hY.go {V V2 W W2 : zS} {d y d' y' : Nat} {as as' : List zV} {o o' : zO} (h : hY V W) (hv : hS d y as o V V2) (hw : hS d' y' as' o' W W2) (v : qHC V2) (w : qHC W2) (g : hG V2 W2) : hY V2 W2 :=
  ⟨hX.symm (hw.x (hX.symm (hv.x h.1))), v, w, g⟩
theorem hH.ka {a b : Int} {Z V W : zS} (h : hH a b Z V W) (hV : qHC V) : zk Z a = (32, 0) := by
  obtain ⟨p, s, ⟨g1, g2, g3, g4⟩, -⟩ := h
  rw [← (g1.2.2 3 a g2).2.1]
  exact K_3 hV.1.1.1.1
/-- the shadow has changed on its tape alone -/
def hT (V V2 : zS) : Prop := (∀ x j : Int, 37 ≤ x → x ≤ 101 → x ≠ 38 → ¬ (x = 37 ∧ (j = 0 ∨ j = 2)) → zm V2 x j = zm V x j) ∧ (∀ x j : Int, x < zn V → j < 0 → zm V2 x j = zm V x j) ∧ zn V ≤ zn V2
theorem hT.rf (V : zS) : hT V V := ⟨fun _ _ _ _ _ _ => rfl, fun _ _ _ _ => rfl, Nat.le_refl _⟩
theorem hT.tr {A B C : zS} (h : hT A B) (g : hT B C) : hT A C := by
  obtain ⟨h1, h2, h3⟩ := h
  obtain ⟨g1, g2, g3⟩ := g
  exact ⟨fun x j a b c d => (g1 x j a b c d).trans (h1 x j a b c d), fun x j a b => (g2 x j (by omega) b).trans (h2 x j a b), by omega⟩
/-- only the tapes are changed -/
def qTp (V S : zS) : Prop := (zn S = zn V ∧ zk S = zk V) ∧ qFtp V (zm S) ∧ qRT S
theorem qTp_H {V S : zS} (hV : qHC V) (h : qTp V S) : qHC S := qHC_e (q5_type hV (m2 := zm S) ⟨h.2.1, h.2.2⟩).1.1 h.1.1 h.1.2 rfl
theorem qTp_c {V : zS} (S T : zS) (h : qTp V S) (_ : zc T ≤ zc S) (_ : zw T ≤ zw S) : qTp V (zrst S T) := h
theorem u_put (e : Nat) (S : zS) (c : Int) (he : 5 ≤ e) (hH : qHC S) (hc : qst (qch c 0)) (hl : zm S 37 2 + 1 ≤ 60) :
    qUn vi qid (qTp S) S (zD e 115 [vr 3, vl c, vi 1] S) (zD e 196 [vr 37, vl c, vi 1]) qpsA ∧ ∃ m1, zD e 115 [vr 3, vl c, vi 1] S = some (.inl (some (vi (zm S 37 2 + 1))), qW S m1) ∧ m1 4 1 = zm S 37 2 + 1 := by
  obtain ⟨⟨⟨⟨hK, hP, hL, hn⟩, ⟨hT, hC, hR, hk⟩, hPo, hY⟩, hBB⟩, hYC, hFc⟩ := id hH
  obtain ⟨m1, r1, r2⟩ := s_type_y e S c 1 he hK hP hT (by decide) (fun j j1 j2 => by rw [show j = 0 by omega]; exact hc) hl
  refine ⟨?_, m1, r1, r2⟩
  rcases q_type e S c 1 he hK hP hT with ⟨v, m1', r, e1, hF⟩ | ⟨x, v, m1', m2, r, -⟩
  · obtain ⟨m2, f, h0, h2, q⟩ := hF (qid v)
    exact Or.inl ⟨v, qW S m1', r, ⟨e1, fun _ _ => rfl⟩, qW S m2, f, ⟨qFtp_1 q.1, fun _ _ => rfl⟩, h0, h2, ⟨rfl, rfl⟩, q.1, q.2⟩
  · rw [r1] at r
    cases r
/-- one sign, on both tapes -/
theorem h_type {V W : zS} (h : hY V W) (e : Nat) (c k : Int) (he : 5 ≤ e) (hc : qst (qch c 0)) (hk : zm V 37 2 = k) (hl : k < 60) :
    ∃ V2 W2, hS e 115 [vl c, vi 1] (.inl (some (vi (k + 1)))) V V2 ∧ hS e 115 [vl c, vi 1] (.inl (some (vi (k + 1)))) W W2 ∧ hY V2 W2 ∧ zm V2 37 2 = k + 1 ∧ hT V V2 ∧ zc V2 = zc V ∧ zw V2 = zw V ∧ zc W2 = zc W ∧ zw W2 = zw W := by
  obtain ⟨⟨Z, a, b, hh⟩, hV, hW, hg⟩ := id h
  have hk' : zm W 37 2 = k := by rw [← hg 37 (Or.inr (Or.inr (by decide)))]; exact hk
  obtain ⟨uV, m1, r1, r2⟩ := u_put e V c he hV hc (by omega)
  obtain ⟨uW, m1', r1', -⟩ := u_put e W c he hW hc (by omega)
  rw [hk] at r1 r2
  rw [hk'] at r1'
  obtain ⟨o, o', V1, W1, V2, W2, ⟨y1, y2⟩, -, ⟨s1, s2⟩, ⟨q1, q2⟩, g2, ⟨z1, z2, z3, z4⟩, ng, fr⟩ := h_un (g := vi) (as := [vl c, vi 1]) hh hV hW hg (fun S q => qTp_H hV q) (fun S q => qTp_H hW q) qTp_c qTp_c (by rfl) (by rfl) trivial (fun v => trivial) (qUs_n uV) (qUs_n uW)
  rw [r1] at y1
  rw [r1'] at y2
  cases y1
  cases y2
  refine ⟨V2, W2, s1, s2, h.go s1 s2 (qTp_H hV q1) (qTp_H hW q2) g2, ?_, ⟨fun x j a1 a2 a3 a4 => q1.2.1 x j (by omega), ng, Nat.le_of_eq q1.1.1.symm⟩, z1, z2, z3, z4⟩
  have := fr 4 (by have := hV.1.1.1.2.2.2; show (4 : Int) < ((zn V : Nat) : Int); omega) (by decide)
  rw [← q1.2.2.1, this]
  exact r2
theorem l_put {V V2 : zS} (hV : qHC V) (e : Nat) (c k : Int) (h0 : 0 ≤ k) (s : hS e 115 [vl c, vi 1] (.inl (some (vi (k + 1)))) V V2) : hS (e + 1) 346 [vi c] (.inl (some (vi 1))) V V2 := fun Z a b W hh => by
  obtain ⟨Z1, r, q⟩ := s Z a b W hh
  refine ⟨Z1, ?_, q⟩
  rw [zDr_346, b346_0, zchk_pos (by rw [hh.ka hV]), r, qcall_l, qJ_s, b346_7, if_pos (by omega), b346_10, b346_15, zchk_pos (by decide)]
/-- one sign put, on both tapes -/
theorem h_put {V W : zS} (h : hY V W) (e : Nat) (c k : Int) (he : 5 ≤ e) (hc : qst (qch c 0)) (hk : zm V 37 2 = k) (hl : k < 60) :
    ∃ V2 W2, hS (e + 1) 346 [vi c] (.inl (some (vi 1))) V V2 ∧ hS (e + 1) 346 [vi c] (.inl (some (vi 1))) W W2 ∧ hY V2 W2 ∧ zm V2 37 2 = k + 1 ∧ hT V V2 ∧ zc V2 = zc V ∧ zw V2 = zw V ∧ zc W2 = zc W ∧ zw W2 = zw W := by
  obtain ⟨V2, W2, s1, s2, q⟩ := h_type h e c k he hc hk hl
  have h0 : 0 ≤ k := by rw [← hk]; exact h.2.1.1.1.2.1.1.2.1.1
  exact ⟨V2, W2, l_put h.2.1 e c k h0 s1, l_put h.2.2.1 e c k h0 s2, q⟩
/-- a row of signs put on a tape -/
def hPs (e : Nat) : List Int → zS → zS → Prop
  | [], V, V2 => V2 = V
  | c :: l, V, V2 => ∃ V1, hS (e + 1) 346 [vi c] (.inl (some (vi 1))) V V1 ∧ hPs e l V1 V2
theorem hPs_app {e : Nat} : ∀ {l l' : List Int} {V V2 : zS}, hPs e (l ++ l') V V2 → ∃ V1, hPs e l V V1 ∧ hPs e l' V1 V2
  | [], _, V, _, h => ⟨V, rfl, h⟩
  | c :: l, l', V, V2, h => by
    obtain ⟨V1, s, h⟩ := h
    obtain ⟨V3, h1, h2⟩ := hPs_app h
    exact ⟨V3, ⟨V1, s, h1⟩, h2⟩
/-- .. on both tapes -/
theorem h_puts (e : Nat) (he : 5 ≤ e) : ∀ (l : List Int) (V W : zS) (k : Int), hY V W → (∀ c ∈ l, qst (qch c 0)) → zm V 37 2 = k → k + l.length ≤ 60 →
    ∃ V2 W2, hPs e l V V2 ∧ hPs e l W W2 ∧ hY V2 W2 ∧ zm V2 37 2 = k + l.length ∧ hT V V2 ∧ zc V2 = zc V ∧ zw V2 = zw V ∧ zc W2 = zc W ∧ zw W2 = zw W
  | [], V, W, k, h, _, hk, _ => ⟨V, W, rfl, rfl, h, by rw [hk]; show k = k + ((0 : Nat) : Int); omega, hT.rf V, rfl, rfl, rfl, rfl⟩
  | c :: l, V, W, k, h, hl, hk, hn => by
    have e1 : (((c :: l).length : Nat) : Int) = (l.length : Int) + 1 := by rw [List.length_cons]; omega
    rw [e1] at hn ⊢
    obtain ⟨V1, W1, s1, s2, q1, q2, q3, q4, q5, q6, q7⟩ := h_put h e c k he (hl c List.mem_cons_self) hk (by omega)
    obtain ⟨V2, W2, t1, t2, t3, t4, t5, t6, t7, t8, t9⟩ := h_puts e he l V1 W1 (k + 1) q1 (fun x hx => hl x (List.mem_cons_of_mem _ hx)) q2 (by omega)
    exact ⟨V2, W2, ⟨V1, s1, t1⟩, ⟨W1, s2, t2⟩, t3, by rw [t4]; omega, q3.tr t5, by rw [t6, q4], by rw [t7, q5], by rw [t8, q6], by rw [t9, q7]⟩
