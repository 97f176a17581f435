/-! The class reads symbols as a tree. -/
def qFk (S : zS) (F : Int) : Prop := zk S F = (26, 0) ∧ zk S (F + 1) = (2, 160) ∧ zk S (F + 2) = (2, 24) ∧ zk S (F + 3) = (0, 24) ∧ zk S (F + 4) = (0, 24) ∧ zk S (F + 5) = (0, 24) ∧ zk S (F + 6) = (0, 160)
def qFp (m : Int → Int → Int) (F : Int) : Prop := m F 0 = F + 1 ∧ m F 4 = F + 2 ∧ m F 5 = F + 3 ∧ m F 6 = F + 4 ∧ m F 7 = F + 5 ∧ m F 10 = F + 6
/-- symbols, code, the next one, how many nodes -/
def qSt (m : Int → Int → Int) (F : Int) (s : Int → Int) (n fld p b : Int) : Prop := qFp m F ∧ m F 1 = n ∧ (∀ i, 0 ≤ i → i < n → m (F + 1) i = s i) ∧ m F 2 = p ∧ m F 3 = fld ∧ m F 8 = b
def qFr (F b : Int) (m m' : Int → Int → Int) : Prop := (∀ x, x ≠ F → (x < F + 2 ∨ F + 5 < x) → m' x = m x) ∧ (∀ j, j ≠ 2 → j ≠ 8 → m' F j = m F j) ∧ (∀ a i, F + 2 ≤ a → a ≤ F + 5 → i < b → m' a i = m a i)
theorem qFr_r (F b : Int) (m : Int → Int → Int) : qFr F b m m := ⟨fun _ _ _ => rfl, fun _ _ _ => rfl, fun _ _ _ _ _ => rfl⟩
theorem qFr_t {F b b1 : Int} {m m1 m2 : Int → Int → Int} (h : qFr F b m m1) (g : qFr F b1 m1 m2) (hb : b ≤ b1) : qFr F b m m2 := ⟨fun x h1 h2 => (g.1 x h1 h2).trans (h.1 x h1 h2), fun j h1 h2 => (g.2.1 j h1 h2).trans (h.2.1 j h1 h2), fun a i h1 h2 h3 => (g.2.2 a i h1 h2 (by omega)).trans (h.2.2 a i h1 h2 h3)⟩
/-- a node stands for a tree -/
def qcr (m : Int → Int → Int) (F : Int) : qTree → Int → Prop
  | .nest z .nil, i => if z < 0 then m (F + 2) i = 97 ∧ m (F + 3) i = -1 - z else m (F + 2) i = 48 ∧ m (F + 3) i = z
  | .tag o (.append l r), i => m (F + 2) i = o ∧ m (F + 3) i = 0 ∧ (0 ≤ m (F + 4) i ∧ m (F + 4) i < i) ∧ (0 ≤ m (F + 5) i ∧ m (F + 5) i < i) ∧ qcr m F l (m (F + 4) i) ∧ qcr m F r (m (F + 5) i)
  | _, _ => False
theorem qcr_a (m : Int → Int → Int) (F z i : Int) : qcr m F (qAt z) i = if z < 0 then m (F + 2) i = 97 ∧ m (F + 3) i = -1 - z else m (F + 2) i = 48 ∧ m (F + 3) i = z := rfl
theorem qcr_o (m : Int → Int → Int) (F : Int) (o : Nat) (l r : qTree) (i : Int) : qcr m F (qOp o l r) i = (m (F + 2) i = o ∧ m (F + 3) i = 0 ∧ (0 ≤ m (F + 4) i ∧ m (F + 4) i < i) ∧ (0 ≤ m (F + 5) i ∧ m (F + 5) i < i) ∧ qcr m F l (m (F + 4) i) ∧ qcr m F r (m (F + 5) i)) := rfl
theorem qcr_f {m m' : Int → Int → Int} {F b : Int} (h : ∀ a i, F + 2 ≤ a → a ≤ F + 5 → i < b → m' a i = m a i) : ∀ x, qwf x → ∀ i, i < b → qcr m F x i → qcr m' F x i := by
  refine q_ind (fun z _ i hi hx => ?_) fun o l r _ _ _ il ir i hi hx => ?_
  · rw [qcr_a] at hx ⊢
    rw [h _ i (by omega) (by omega) hi, h _ i (by omega) (by omega) hi]
    exact hx
  · rw [qcr_o] at hx ⊢
    rw [h _ i (by omega) (by omega) hi, h _ i (by omega) (by omega) hi, h _ i (by omega) (by omega) hi, h _ i (by omega) (by omega) hi]
    obtain ⟨h1, h2, h3, h4, h5, h6⟩ := hx
    exact ⟨h1, h2, h3, h4, il _ (by omega) h5, ir _ (by omega) h6⟩
theorem qSt_2 {m : Int → Int → Int} {F : Int} {s : Int → Int} {n fld p b : Int} (h : qSt m F s n fld p b) (q : Int) : qSt (qu m F 2 q) F s n fld q b := by
  obtain ⟨⟨h0, h4, h5, h6, h7, h10⟩, h1, hs, h2, h3, h8⟩ := h
  refine ⟨⟨?_, ?_, ?_, ?_, ?_, ?_⟩, ?_, fun i i1 i2 => ?_, qu_s _ _ _ _, ?_, ?_⟩
  all_goals first | (rw [qu_i _ _ _ _ _ (by decide)]; assumption) | skip
  rw [qu_o _ _ _ _ _ (by omega)]
  exact hs i i1 i2
theorem qFr_2 (F b q : Int) (m : Int → Int → Int) : qFr F b m (qu m F 2 q) := ⟨fun x h1 _ => qu_o _ _ _ _ _ h1, fun j h1 _ => qu_i _ _ _ _ _ h1, fun a i h1 h2 _ => by rw [qu_o _ _ _ _ _ (by omega)]⟩
theorem s_symbol (d : Nat) (S : zS) (F : Int) (s : Int → Int) (n fld p b : Int) (h : 1 ≤ d) (hF : qFk S F) (hs : qSt (zm S) F s n fld p b) (hp : 0 ≤ p) (hn : n ≤ 160) (hc : ∀ i, 0 ≤ i → i < n → 0 ≤ s i ∧ s i < 65536) : zD d 60 [vr F] S = some (.inl (some (vi (qsy s n p))), S) := by
  obtain ⟨e, rfl, -⟩ := qd h
  obtain ⟨k0, k1, -⟩ := hF
  obtain ⟨⟨h0, -⟩, h1, hs, h2, -⟩ := hs
  by_cases c : p < n
  · have g := hs p hp c
    have r := hc p hp c
    rw [qsy_i ⟨hp, c⟩]
    simp (config := { maxSteps := 2000000 }) (disch := first | omega | (simp only [k0, k1, h0, h2, qb_in, qkW, qmW, qnW, true_and, and_true, or_self, true_or, or_true, and_self]; done) | (simp only [k0, k1, h0, h2, qb_in, qkW, qmW, qnW, true_and, and_true, or_self, true_or, or_true, and_self]; omega)) only [zD_60, b60_0, b60_7, b60_18, b60_30, b60_32, qcall_l, qcall_r, qretn_l, qJ_s, qJ_n, qV0, qEx, ↓qif0, ↓zchk_pos, ↓reduceIte, qput, qWW, qmW, qkW, qnW, k0, k1, h0, h1, h2, g, if_neg (show ¬ p < 0 by omega), if_pos c]
  · rw [qsy_n (by omega)]
    simp (config := { maxSteps := 2000000 }) (disch := first | omega | (simp only [k0, qb_in, qkW, qmW, qnW, true_and, and_true, or_self, true_or, or_true, and_self]; done) | (simp only [k0, qb_in, qkW, qmW, qnW, true_and, and_true, or_self, true_or, or_true, and_self]; omega)) only [zD_60, b60_0, b60_7, b60_18, b60_30, b60_32, qcall_l, qcall_r, qretn_l, qJ_s, qJ_n, qV0, qEx, ↓qif0, ↓zchk_pos, ↓reduceIte, qput, qWW, qmW, qkW, qnW, k0, h1, h2, if_neg (show ¬ p < 0 by omega), if_neg c, Int.reduceLE, Int.reduceLT, true_and, and_self]
theorem s_take (d : Nat) (S : zS) (F : Int) (s : Int → Int) (n fld p b c : Int) (h : 2 ≤ d) (hF : qFk S F) (hs : qSt (zm S) F s n fld p b) (hp : 0 ≤ p ∧ p ≤ 1000) (hn : n ≤ 160) (hc : ∀ i, 0 ≤ i → i < n → 0 ≤ s i ∧ s i < 65536) : zD d 61 [vr F, vi c] S = if qsy s n p = c then some (.inl (some (vi 1)), qW S (qu (zm S) F 2 (p + 1))) else some (.inl (some (vi 0)), S) := by
  obtain ⟨e, rfl, h1⟩ := qd h
  have sy := s_symbol e S F s n fld p b h1 hF hs hp.1 hn hc
  obtain ⟨k0, k1, -⟩ := hF
  have h2 := hs.2.2.2.1
  by_cases q : qsy s n p = c
  · rw [if_pos q]
    simp (config := { maxSteps := 2000000 }) (disch := first | omega | (simp only [k0, qb_in, qkW, qmW, qnW, true_and, and_true, or_self, true_or, or_true, and_self]; done) | (simp only [k0, qb_in, qkW, qmW, qnW, true_and, and_true, or_self, true_or, or_true, and_self]; omega)) only [zD_61, b61_0, b61_4, b61_8, b61_10, qcall_l, qcall_r, qretn_l, qJ_s, qJ_n, qV0, qEx, ↓qif0, ↓zchk_pos, ↓reduceIte, qput, qWW, qmW, qkW, qnW, k0, sy, if_pos q, h2, q32, Int.reduceLE, true_and, and_self]
  · rw [if_neg q]
    simp (config := { maxSteps := 2000000 }) (disch := first | omega | (simp only [k0, qb_in, qkW, qmW, qnW, true_and, and_true, or_self, true_or, or_true, and_self]; done) | (simp only [k0, qb_in, qkW, qmW, qnW, true_and, and_true, or_self, true_or, or_true, and_self]; omega)) only [zD_61, b61_0, b61_4, b61_8, b61_10, qcall_l, qcall_r, qretn_l, qJ_s, qJ_n, qV0, qEx, ↓qif0, ↓zchk_pos, ↓reduceIte, qput, qWW, qmW, qkW, qnW, k0, sy, if_neg q, Int.reduceLE, true_and, and_self]
theorem s_appendNode (d : Nat) (S : zS) (F : Int) (s : Int → Int) (n fld p b k v l r : Int) (h : 1 ≤ d) (hF : qFk S F) (hs : qSt (zm S) F s n fld p b) (hb : 0 ≤ b ∧ b < 24) (hk : 0 ≤ k ∧ k < 65536) :
    ∃ m', zD d 68 [vr F, vi k, vi v, vi l, vi r] S = some (.inl (some (vi b)), qW S m') ∧ qSt m' F s n fld p (b + 1) ∧ m' (F + 2) b = k ∧ m' (F + 3) b = v ∧ m' (F + 4) b = l ∧ m' (F + 5) b = r ∧ qFr F b (zm S) m' := by
  obtain ⟨e, rfl, -⟩ := qd h
  obtain ⟨k0, k1, k2, k3, k4, k5, k6⟩ := hF
  obtain ⟨⟨h0, h4, h5, h6, h7, h10⟩, h1, hs, h2, h3, h8⟩ := hs
  have ek : k % 65536 = k := by omega
  have e1 : qu (zm S) (F + 2) b k F = zm S F := qu_o _ _ _ _ _ (by omega)
  have e2 : qu (qu (zm S) (F + 2) b k) (F + 3) b v F = zm S F := by rw [qu_o _ _ _ _ _ (by omega), e1]
  have e3 : qu (qu (qu (zm S) (F + 2) b k) (F + 3) b v) (F + 4) b l F = zm S F := by rw [qu_o _ _ _ _ _ (by omega), e2]
  have e4 : qu (qu (qu (qu (zm S) (F + 2) b k) (F + 3) b v) (F + 4) b l) (F + 5) b r F = zm S F := by rw [qu_o _ _ _ _ _ (by omega), e3]
  have e5 : qu (qu (qu (qu (qu (zm S) (F + 2) b k) (F + 3) b v) (F + 4) b l) (F + 5) b r) F 8 (b + 1) F 8 = b + 1 := qu_s _ _ _ _
  have fr : ∀ x, x ≠ F → qu (qu (qu (qu (qu (zm S) (F + 2) b k) (F + 3) b v) (F + 4) b l) (F + 5) b r) F 8 (b + 1) x = qu (qu (qu (qu (zm S) (F + 2) b k) (F + 3) b v) (F + 4) b l) (F + 5) b r x := fun x hx => qu_o _ _ _ _ _ hx
  refine ⟨qu (qu (qu (qu (qu (zm S) (F + 2) b k) (F + 3) b v) (F + 4) b l) (F + 5) b r) F 8 (b + 1), ?_, ⟨⟨?_, ?_, ?_, ?_, ?_, ?_⟩, ?_, fun i i1 i2 => ?_, ?_, ?_, e5⟩, ?_, ?_, ?_, ?_, fun x x1 x2 => ?_, fun j j1 j2 => ?_, fun a i a1 a2 i1 => ?_⟩
  · simp (config := { maxSteps := 2000000 }) (disch := first | omega | (simp only [k0, k2, k3, k4, k5, h4, h5, h6, h7, h8, e1, e2, e3, e4, e5, qb_in, qkW, qmW, qnW, true_and, and_true, or_self, true_or, or_true, and_self]; done) | (simp only [k0, k2, k3, k4, k5, h4, h5, h6, h7, h8, e1, e2, e3, e4, e5, qb_in, qkW, qmW, qnW, true_and, and_true, or_self, true_or, or_true, and_self]; omega)) only [zD_68, b68_0, b68_9, b68_11, b68_29, b68_45, b68_62, qcall_l, qcall_r, qretn_l, qJ_s, qJ_n, qV0, qEx, ↓qif0, ↓zchk_pos, ↓reduceIte, qput, qWW, qmW, qkW, qnW, k0, k2, k3, k4, k5, h4, h5, h6, h7, h8, ek, e1, e2, e3, e4, e5, if_pos hb.2, q32, show b + 1 - 1 = b by omega]
  all_goals first | (rw [qu_i _ _ _ _ _ (by decide), e4]; assumption) | skip
  · rw [fr _ (by omega), qu_o _ _ _ _ _ (by omega), qu_o _ _ _ _ _ (by omega), qu_o _ _ _ _ _ (by omega), qu_o _ _ _ _ _ (by omega)]
    exact hs i i1 i2
  · rw [fr _ (by omega), qu_o _ _ _ _ _ (by omega), qu_o _ _ _ _ _ (by omega), qu_o _ _ _ _ _ (by omega), qu_s]
  · rw [fr _ (by omega), qu_o _ _ _ _ _ (by omega), qu_o _ _ _ _ _ (by omega), qu_s]
  · rw [fr _ (by omega), qu_o _ _ _ _ _ (by omega), qu_s]
  · rw [fr _ (by omega), qu_s]
  · rw [fr _ x1, qu_o _ _ _ _ _ (by omega), qu_o _ _ _ _ _ (by omega), qu_o _ _ _ _ _ (by omega), qu_o _ _ _ _ _ (by omega)]
  · rw [qu_i _ _ _ _ _ j2, e4]
  · rw [fr _ (by omega)]
    simp only [qu1]
    repeat' split
    all_goals first | rfl | (exfalso; omega)
theorem s_join (d : Nat) (S : zS) (F : Int) (s : Int → Int) (n fld p b k l r : Int) (h : 2 ≤ d) (hF : qFk S F) (hs : qSt (zm S) F s n fld p b) (hb : 0 ≤ b ∧ b < 24) (hk : 0 ≤ k ∧ k < 65536) (hl : 0 ≤ l) (hr : 0 ≤ r) :
    ∃ m', zD d 67 [vr F, vi k, vi l, vi r] S = some (.inl (some (vi b)), qW S m') ∧ qSt m' F s n fld p (b + 1) ∧ m' (F + 2) b = k ∧ m' (F + 3) b = 0 ∧ m' (F + 4) b = l ∧ m' (F + 5) b = r ∧ qFr F b (zm S) m' := by
  obtain ⟨e, rfl, h1⟩ := qd h
  obtain ⟨m', r1, p⟩ := s_appendNode e S F s n fld p b k 0 l r h1 hF hs hb hk
  have k0 := hF.1
  refine ⟨m', ?_, p⟩
  simp (config := { maxSteps := 2000000 }) (disch := first | omega | (simp only [k0, qb_in, qkW, qmW, qnW, true_and, and_true, or_self, true_or, or_true, and_self]; done) | (simp only [k0, qb_in, qkW, qmW, qnW, true_and, and_true, or_self, true_or, or_true, and_self]; omega)) only [zD_67, b67_0, b67_5, b67_10, b67_14, b67_22, qcall_l, qcall_r, qretn_l, qJ_s, qJ_n, qV0, qEx, ↓qif0, ↓zchk_pos, ↓reduceIte, qput, qWW, qmW, qkW, qnW, k0, r1, if_neg (show ¬ l = -1 by omega), if_neg (show ¬ r = -1 by omega)]
theorem qnv_r (y : Int → Int) (p : Int) (k : Nat) (hk : k ≤ 4) (hd : ∀ j : Int, 0 ≤ j → j < k → qdg (y (p + j))) : ∀ j : Nat, j ≤ k → 0 ≤ qnv y p j ∧ qnv y p j < 20000 := by
  have key : ∀ j : Nat, j ≤ k → 1 ≤ qnv y p j ∧ qnv y p j < 2 * (10 : Int) ^ j := by
    intro j
    induction j with
    | zero => intro _; simp only [qnv]; omega
    | succ j ih =>
      intro hj
      have h1 := ih (by omega)
      have h2 := hd j (by omega) (by omega)
      simp only [qnv]
      rw [Int.pow_succ]
      omega
  intro j hj
  have h1 := key j hj
  have h2 : j = 0 ∨ j = 1 ∨ j = 2 ∨ j = 3 ∨ j = 4 := by omega
  rcases h2 with rfl | rfl | rfl | rfl | rfl
  all_goals omega
theorem s_readNumber (d : Nat) (S : zS) (F : Int) (s : Int → Int) (n fld p b : Int) (k : Nat) (h : 3 ≤ d) (hF : qFk S F) (hs : qSt (zm S) F s n fld p b) (hp : 0 ≤ p ∧ p ≤ 500) (hn : n ≤ 160) (hc : ∀ i, 0 ≤ i → i < n → 0 ≤ s i ∧ s i < 65536) (hb : 0 ≤ b ∧ b < 24) (hk : 1 ≤ k ∧ k ≤ 4) (hd : ∀ j : Int, 0 ≤ j → j < k → qdg (qsy s n (p + j))) (he : k = 4 ∨ ¬ qdg (qsy s n (p + k))) :
    ∃ m', zD d 66 [vr F] S = some (.inl (some (vi b)), qW S m') ∧ qSt m' F s n fld (p + k) (b + 1) ∧ qcr m' F (qAt (qnv (qsy s n) p k)) b ∧ qFr F b (zm S) m' := by
  obtain ⟨e, rfl, h1⟩ := qd h
  obtain ⟨k0, k1, k2, k3, k4, k5, k6⟩ := hF
  have hF : qFk S F := ⟨k0, k1, k2, k3, k4, k5, k6⟩
  have hz := qnv_z (qsy s n) p k hk hd
  have hvr := qnv_r (qsy s n) p k hk.2 hd
  have hv0 := hvr k (Nat.le_refl _)
  have fin : ∀ (m : Int → Int → Int) (x2 : zV), qSt m F s n fld (p + k) b → qFr F b (zm S) m → ∃ m', zF_66 e 48 [vr F, vi (qnv (qsy s n) p k), x2] [] (qW S m) = some (.inl (some (vi b)), qW S m') ∧ qSt m' F s n fld (p + k) (b + 1) ∧ qcr m' F (qAt (qnv (qsy s n) p k)) b ∧ qFr F b (zm S) m' := by
    intro m x2 hs hf
    obtain ⟨m', r, p1, p2, p3, p4, p5, f⟩ := s_appendNode e (qW S m) F s n fld (p + k) b 48 (qnv (qsy s n) p k) (-1) (-1) (by omega) hF hs hb (by decide)
    refine ⟨m', ?_, p1, ?_, qFr_t hf f (Int.le_refl _)⟩
    · rw [b66_48]
      have n1 : ¬ qnv (qsy s n) p k = 1 := by
        unfold qza at hz
        omega
      simp (config := { maxSteps := 2000000 }) (disch := first | omega | (simp only [k0, qb_in, qkW, qmW, qnW, true_and, and_true, or_self, true_or, or_true, and_self]; done) | (simp only [k0, qb_in, qkW, qmW, qnW, true_and, and_true, or_self, true_or, or_true, and_self]; omega)) only [b66_0, b66_9, b66_13, b66_16, b66_19, b66_27, b66_42, b66_48, b66_53, b66_57, b66_66, qcall_l, qcall_r, qretn_l, qJ_s, qJ_n, qV0, qEx, ↓qif0, ↓zchk_pos, ↓reduceIte, qput, qWW, qmW, qkW, qnW, k0, r, if_neg n1]
    · rw [qcr_a, if_neg (by omega)]
      exact ⟨p2, p3⟩
  have lp : ∀ (f i : Nat) (m : Int → Int → Int), i + f = k → qSt m F s n fld (p + i) b → qFr F b (zm S) m → ∃ m', zF_66 e 4 [vr F, vi (qnv (qsy s n) p i), vi i] [] (qW S m) = some (.inl (some (vi b)), qW S m') ∧ qSt m' F s n fld (p + k) (b + 1) ∧ qcr m' F (qAt (qnv (qsy s n) p k)) b ∧ qFr F b (zm S) m' := by
    intro f
    induction f with
    | zero =>
      intro i m h2 hs hf
      have hi : i = k := by omega
      subst hi
      obtain ⟨m', r, p1⟩ := fin m (vi i) hs hf
      refine ⟨m', ?_, p1⟩
      rw [b66_4]
      by_cases c : i = 4
      · simp (config := { maxSteps := 2000000 }) (disch := first | omega | (simp only [k0, qb_in, qkW, qmW, qnW, true_and, and_true, or_self, true_or, or_true, and_self]; done) | (simp only [k0, qb_in, qkW, qmW, qnW, true_and, and_true, or_self, true_or, or_true, and_self]; omega)) only [b66_0, b66_9, b66_13, b66_16, b66_19, b66_27, b66_42, b66_53, b66_57, b66_66, qcall_l, qcall_r, qretn_l, qJ_s, qJ_n, qV0, qEx, ↓qif0, ↓zchk_pos, ↓reduceIte, qput, qWW, qmW, qkW, qnW, k0, if_neg (show ¬ (i : Int) < 4 by omega)]
        exact r
      · have c2 := he.resolve_left c
        have sy := s_symbol e (qW S m) F s n fld (p + i) b (by omega) hF hs (by omega) hn hc
        have sd := s_isDigit e (qsy s n (p + i)) (qW S m) (by omega)
        rw [qb_n c2] at sd
        simp (config := { maxSteps := 2000000 }) (disch := first | omega | (simp only [k0, qb_in, qkW, qmW, qnW, true_and, and_true, or_self, true_or, or_true, and_self]; done) | (simp only [k0, qb_in, qkW, qmW, qnW, true_and, and_true, or_self, true_or, or_true, and_self]; omega)) only [b66_0, b66_9, b66_13, b66_16, b66_19, b66_27, b66_42, b66_53, b66_57, b66_66, qcall_l, qcall_r, qretn_l, qJ_s, qJ_n, qV0, qEx, ↓qif0, ↓zchk_pos, ↓reduceIte, qput, qWW, qmW, qkW, qnW, k0, if_pos (show (i : Int) < 4 by omega), sy, sd]
        exact r
    | succ f ih =>
      intro i m h2 hs hf
      have g1 := hd i (by omega) (by omega)
      have g2 := hvr i (by omega)
      have g3 := hvr (i + 1) (by omega)
      have sy := s_symbol e (qW S m) F s n fld (p + i) b (by omega) hF hs (by omega) hn hc
      have sd := s_isDigit e (qsy s n (p + i)) (qW S m) (by omega)
      rw [qb_p g1] at sd
      have m2 := hs.2.2.2.1
      obtain ⟨m', r, p1⟩ := ih (i + 1) (qu m F 2 (p + i + 1)) (by omega) (by rw [show p + ((i + 1 : Nat) : Int) = p + i + 1 by omega]; exact qSt_2 hs _) (qFr_t hf (qFr_2 _ _ _ _) (Int.le_refl _))
      rw [qnv] at r g3
      refine ⟨m', ?_, p1⟩
      rw [b66_4]
      simp (config := { maxSteps := 2000000 }) (disch := first | omega | (simp only [k0, qb_in, qkW, qmW, qnW, true_and, and_true, or_self, true_or, or_true, and_self]; done) | (simp only [k0, qb_in, qkW, qmW, qnW, true_and, and_true, or_self, true_or, or_true, and_self]; omega)) only [b66_0, b66_9, b66_13, b66_16, b66_19, b66_27, b66_42, b66_53, b66_57, b66_66, qcall_l, qcall_r, qretn_l, qJ_s, qJ_n, qV0, qEx, ↓qif0, ↓zchk_pos, ↓reduceIte, qput, qWW, qmW, qkW, qnW, k0, if_pos (show (i : Int) < 4 by omega), sy, sd, m2, Int.reduceEq, q32]
      exact r
  obtain ⟨m', r, p1⟩ := lp k 0 (zm S) (by omega) (by rw [show p + ((0 : Nat) : Int) = p by omega]; exact hs) (qFr_r _ _ _)
  refine ⟨m', ?_, p1⟩
  rw [qWS] at r
  simp (config := { maxSteps := 2000000 }) (disch := first | omega | (simp only [qb_in, qkW, qmW, qnW, true_and, and_true, or_self, true_or, or_true, and_self]; done) | (simp only [qb_in, qkW, qmW, qnW, true_and, and_true, or_self, true_or, or_true, and_self]; omega)) only [zD_66, b66_0, b66_9, b66_13, b66_16, b66_19, b66_27, b66_42, b66_48, b66_53, b66_57, b66_66, qcall_l, qcall_r, qretn_l, qJ_s, qJ_n, qV0, qEx, ↓qif0, ↓zchk_pos, ↓reduceIte, qput, qWW, qmW, qkW, qnW]
  exact r
