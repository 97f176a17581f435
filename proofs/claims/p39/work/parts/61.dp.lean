/-! The class counts rows of cells and readings. -/
def qdf (upd : Int → Int → Int) : Nat → Int → Int → Int
  | 0, _, v => v
  | f + 1, k, v => qdf upd f (k + 1) (upd k v)
def qtab (n init : Int) (st : (Int → Int) → Int → Int) : Nat → Int → Int
  | 0 => fun i => if i = n then init else 0
  | j + 1 => fun i => if i = n - (j + 1) then st (qtab n init st j) (n - (j + 1)) else qtab n init st j i
noncomputable def quL (T : Int → Int → Int) (g : Int) (ws : Int → Int) (P n : Int) (f : Int → Int) (at_ k v : Int) : Int := if qc (qCW T k g ws n (qEn P n at_) at_) = 0 then v else if z64 (f (at_ + T 0 k) + qcn (T 4 k)) < v then z64 (f (at_ + T 0 k) + qcn (T 4 k)) else v
noncomputable def quW (T : Int → Int → Int) (g : Int) (ws : Int → Int) (P n : Int) (f : Int → Int) (at_ k v : Int) : Int := if qc (qCW T k g ws n (qEn P n at_) at_) = 0 then v else z64 (v + f (at_ + T 0 k))
noncomputable def quR (T : Int → Int → Int) (g : Int) (r : Int → Int) (all : Int) (f : Int → Int) (at_ k v : Int) : Int := if qc (qCR T k g r all at_) = 0 then v else z64 (v + f (at_ + qcn (T 4 k)))
noncomputable def qsL (T : Int → Int → Int) (N g : Int) (ws : Int → Int) (P n : Int) (f : Int → Int) (at_ : Int) : Int := qdf (quL T g ws P n f at_) N.toNat 0 (z64 (f (at_ + 1) + 1))
noncomputable def qsW (T : Int → Int → Int) (N g : Int) (ws : Int → Int) (P n : Int) (f : Int → Int) (at_ : Int) : Int := qdf (quW T g ws P n f at_) N.toNat 0 (f (at_ + 1))
noncomputable def qsR (T : Int → Int → Int) (N g : Int) (r : Int → Int) (all : Int) (f : Int → Int) (at_ : Int) : Int := qdf (quR T g r all f at_) N.toNat 0 (if qlo (r at_) = -1 then 0 else f (at_ + 1))
theorem s_fewestCells (d : Nat) (S : zS) (a N g sw sb D P n fd : Int) (T : Int → Int → Int) (ws : Int → Int) (h : 4 ≤ d) (ha : qCo S a N T) (hT : qTok T N)
    (kw : zk S sw = (28, 0)) (pw : zm S sw 0 = sb) (kb : zk S sb = (0, 10)) (pn : zm S sw 1 = n) (hn : 0 < n ∧ n ≤ 10) (hw : ∀ j, 0 ≤ j → j < n → zm S sb j = ws j) (hD : qDo S D P n) (hf : zm S a 2 = fd) (kf : zk S fd = (1, 17)) :
    ∃ m', zD d 29 [vr a, vr sw, vr D, vi g] S = some (.inl (some (vi (z32 (qtab n 0 (qsL T N g ws P n) n.toNat 0)))), qW S m') ∧ (∀ x, x ≠ fd → m' x = zm S x) := by
  obtain ⟨e, rfl, h1⟩ := qd h
  have a1 := ha.1
  have a2 := ha.2.1
  have a3 := ha.2.2.1
  have hN := ha.2.2.2.1
  -- what does not change
  have fsw : ∀ {m : Int → Int → Int}, (∀ x, x ≠ fd → m x = zm S x) → m sw = zm S sw := fun hq => hq sw (qkne kw kf (by decide))
  have fsb : ∀ {m : Int → Int → Int}, (∀ x, x ≠ fd → m x = zm S x) → m sb = zm S sb := fun hq => hq sb (qkne kb kf (by decide))
  have fa : ∀ {m : Int → Int → Int}, (∀ x, x ≠ fd → m x = zm S x) → m a = zm S a := fun hq => hq a (qkne a1 kf (by decide))
  have fco : ∀ {m : Int → Int → Int}, (∀ x, x ≠ fd → m x = zm S x) → qCo (qW S m) a N T := fun hq => qCo_k ha fun x hx => hq x (fun q => by rw [q, kf] at hx; revert hx; decide)
  have fdo : ∀ {m : Int → Int → Int}, (∀ x, x ≠ fd → m x = zm S x) → qDo (qW S m) D P n := fun hq => qDo_g hD fun h0 => by
    rcases hD with hD | ⟨-, k1, p1, k2, -⟩
    · exact absurd hD.1 h0
    · exact ⟨hq D (qkne k1 kf (by decide)), hq _ (qkne k2 kf (by decide))⟩
  have inner : ∀ (at_ : Int) (F : Int → Int) (hat : 0 ≤ at_ ∧ at_ < n) (f : Nat) (k v : Int) (m : Int → Int → Int) (y7 y8 y9 : zV), 0 ≤ k → k + f = N → (∀ x, x ≠ fd → m x = zm S x) → (∀ i, at_ < i → i ≤ n → m fd i = F i) → m fd at_ = v →
      ∃ m', zF_29 e 53 [vr a, vr sw, vr D, vi g, vi at_, vi (qEn P n at_), vi k, y7, y8, y9] [] (qW S m) = zF_29 e 132 [vr a, vr sw, vr D, vi g, vi at_, vi (qEn P n at_), vi N, vu, vu, vu] [] (qW S m') ∧ (∀ x, x ≠ fd → m' x = zm S x) ∧ (∀ i, at_ < i → i ≤ n → m' fd i = F i) ∧ m' fd at_ = qdf (quL T g ws P n F at_) f k v := by
    intro at_ F hat f
    induction f with
    | zero =>
      intro k v m y7 y8 y9 h2 h3 hq hF hv
      have hk : k = N := by omega
      subst hk
      refine ⟨m, ?_, hq, hF, hv⟩
      rw [b29_53]
      simp (config := { maxSteps := 2000000 }) (disch := first | omega | (simp only [a1, qb_in, qkW, qmW, qnW, true_and, and_true, or_self, true_or, or_true, and_self]; done) | (simp only [a1, qb_in, qkW, qmW, qnW, true_and, and_true, or_self, true_or, or_true, and_self]; omega)) only [b29_0, b29_16, b29_23, b29_30, b29_47, b29_62, b29_79, b29_82, b29_85, b29_103, b29_120, b29_126, b29_138, qcall_l, qcall_r, qretn_l, qJ_s, qJ_n, qV0, qEx, ↓qif0, ↓zchk_pos, ↓reduceIte, qput, qWW, qmW, qkW, qnW, a1, fa hq, a3, Int.lt_irrefl]
    | succ f ih =>
      intro k v m y7 y8 y9 h2 h3 hq hF hv
      have hc' := (fco hq).2.2.2.2 k h2 (by omega)
      have hst := s_standsIn e (qW S m) _ k g sw sb n at_ (qEn P n at_) T ws (by omega) hc' kw (by rw [qmW, fsw hq, pw]) kb (by rw [qmW, fsw hq, pn]) hn.2 (qEn_s P n at_ ⟨hat.1, hat.2, hn.2⟩).2.1 (by omega) (fun j j1 j2 => by rw [qmW, fsb hq]; exact hw j j1 j2)
      have y1 : zk S (m (zm S a 0) k) = (23, 0) := by rw [← fa hq]; exact hc'.1
      have z1 : m (m (zm S a 0) k) 1 = T 0 k := by rw [← fa hq]; exact hc'.2.2.1
      have z5 : m (m (zm S a 0) k) 5 = T 4 k := by rw [← fa hq]; exact hc'.2.2.2.2.2.2.1
      simp only [qmW, fa hq] at hst
      rw [b29_53]
      by_cases c0 : qc (qCW T k g ws n (qEn P n at_) at_) = 0
      · rw [c0] at hst
        obtain ⟨m', r, p⟩ := ih (k + 1) v m vu vu vu (by omega) (by omega) hq hF hv
        refine ⟨m', ?_, ?_⟩
        · simp (config := { maxSteps := 2000000 }) (disch := first | omega | (simp only [a1, a2, fa hq, y1, qb_in, qkW, qmW, qnW, true_and, and_true, or_self, true_or, or_true, and_self]; done) | (simp only [a1, a2, fa hq, y1, qb_in, qkW, qmW, qnW, true_and, and_true, or_self, true_or, or_true, and_self]; omega)) only [b29_0, b29_16, b29_23, b29_30, b29_47, b29_62, b29_79, b29_82, b29_85, b29_103, b29_120, b29_126, b29_138, qcall_l, qcall_r, qretn_l, qJ_s, qJ_n, qV0, qEx, ↓qif0, ↓zchk_pos, ↓reduceIte, qput, qWW, qmW, qkW, qnW, a1, a2, a3, y1, fa hq, if_pos (show k < N by omega), hst, q32]
          -- the contraction's local is dropped
          exact r
        · have e1 : qdf (quL T g ws P n F at_) (f + 1) k v = qdf (quL T g ws P n F at_) f (k + 1) v := by
            show qdf _ f (k + 1) (quL T g ws P n F at_ k v) = _
            unfold quL
            rw [if_pos c0]
          rw [e1]
          exact p
      · have hcw := qc_1 c0
        have hE := (qEn_s P n at_ ⟨hat.1, hat.2, hn.2⟩).2.1
        have h5 := hcw.2.1
        have ht := (hT k h2 (by omega)).1
        have gF := hF (at_ + T 0 k) (by omega) (by omega)
        have cc := s_countCells e (qW S m) (m (zm S a 0) k) (by omega) y1
        rw [qmW, z5] at cc
        rw [qc_p hcw] at hst
        generalize hV : z64 (F (at_ + T 0 k) + qcn (T 4 k)) = V
        obtain ⟨m', r, p⟩ := ih (k + 1) (if V < v then V else v) (qu m fd at_ (if V < v then V else v)) vu vu vu (by omega) (by omega) (fun x hx => (qu_o _ _ _ _ _ hx).trans (hq x hx)) (fun i i1 i2 => by rw [qu_i _ _ _ _ _ (by omega)]; exact hF i i1 i2) (qu_s _ _ _ _)
        refine ⟨m', ?_, ?_⟩
        · simp (config := { maxSteps := 2000000 }) (disch := first | omega | (simp only [a1, a2, fa hq, y1, hf, kf, q32, z1, qb_in, qkW, qmW, qnW, true_and, and_true, or_self, true_or, or_true, and_self]; done) | (simp only [a1, a2, fa hq, y1, hf, kf, q32, z1, qb_in, qkW, qmW, qnW, true_and, and_true, or_self, true_or, or_true, and_self]; omega)) only [b29_0, b29_16, b29_23, b29_30, b29_47, b29_62, b29_79, b29_82, b29_85, b29_103, b29_120, b29_126, b29_138, qcall_l, qcall_r, qretn_l, qJ_s, qJ_n, qV0, qEx, ↓qif0, ↓zchk_pos, ↓reduceIte, qput, qWW, qmW, qkW, qnW, a1, a2, a3, y1, z1, hf, kf, fa hq, if_pos (show k < N by omega), hst, Int.reduceEq, q32, gF, cc, hV, hv]
          exact r
        · have e1 : qdf (quL T g ws P n F at_) (f + 1) k v = qdf (quL T g ws P n F at_) f (k + 1) (if V < v then V else v) := by
            show qdf _ f (k + 1) (quL T g ws P n F at_ k v) = _
            unfold quL
            rw [if_neg c0, hV]
          rw [e1]
          exact p
  have outer : ∀ (f j : Nat) (m : Int → Int → Int) (y5 y6 y7 y8 y9 : zV), (j : Int) + f = n → (∀ x, x ≠ fd → m x = zm S x) → (∀ i, n - j ≤ i → i ≤ n → m fd i = qtab n 0 (qsL T N g ws P n) j i) →
      ∃ m', zF_29 e 18 [vr a, vr sw, vr D, vi g, vi (n - j - 1), y5, y6, y7, y8, y9] [] (qW S m) = some (.inl (some (vi (z32 (qtab n 0 (qsL T N g ws P n) n.toNat 0)))), qW S m') ∧ (∀ x, x ≠ fd → m' x = zm S x) := by
    intro f
    induction f with
    | zero =>
      intro j m y5 y6 y7 y8 y9 h2 hq hF
      have g1 := hF 0 (by omega) (by omega)
      rw [show j = n.toNat by omega] at g1
      refine ⟨m, ?_, hq⟩
      rw [b29_18]
      simp (config := { maxSteps := 2000000 }) (disch := first | omega | (simp only [a1, fa hq, hf, kf, qb_in, qkW, qmW, qnW, true_and, and_true, or_self, true_or, or_true, and_self]; done) | (simp only [a1, fa hq, hf, kf, qb_in, qkW, qmW, qnW, true_and, and_true, or_self, true_or, or_true, and_self]; omega)) only [b29_0, b29_16, b29_23, b29_30, b29_47, b29_62, b29_79, b29_82, b29_85, b29_103, b29_120, b29_126, b29_132, b29_138, qcall_l, qcall_r, qretn_l, qJ_s, qJ_n, qV0, qEx, ↓qif0, ↓zchk_pos, ↓reduceIte, qput, qWW, qmW, qkW, qnW, a1, hf, kf, fa hq, g1, if_pos (show n - j - 1 < 0 by omega)]
    | succ f ih =>
      intro j m y5 y6 y7 y8 y9 h2 hq hF
      have g1 := hF (n - j - 1 + 1) (by omega) (by omega)
      have eo := s_endOfPart e (qW S m) sw D P n (n - j - 1) (by omega) kw (by rw [qmW, fsw hq, pn]) (fdo hq) (by omega)
      obtain ⟨m1, r1, q1, F1, v1⟩ := inner (n - j - 1) (qtab n 0 (qsL T N g ws P n) j) (by omega) N.toNat 0 (z64 (qtab n 0 (qsL T N g ws P n) j (n - j - 1 + 1) + 1)) (qu m fd (n - j - 1) (z64 (qtab n 0 (qsL T N g ws P n) j (n - j - 1 + 1) + 1))) vu vu vu (by omega) (by omega) (fun x hx => (qu_o _ _ _ _ _ hx).trans (hq x hx)) (fun i i1 i2 => by rw [qu_i _ _ _ _ _ (by omega)]; exact hF i (by omega) i2) (qu_s _ _ _ _)
      obtain ⟨m2, r2, q2⟩ := ih (j + 1) m1 vu vu vu vu vu (by omega) q1 (fun i i1 i2 => by
        show _ = if i = n - ((j : Int) + 1) then _ else _
        by_cases c : i = n - ((j : Int) + 1)
        · rw [if_pos c, c, show n - ((j : Int) + 1) = n - j - 1 by omega]
          exact v1
        · rw [if_neg c]
          exact F1 i (by omega) i2)
      refine ⟨m2, ?_, q2⟩
      rw [b29_18]
      simp (config := { maxSteps := 2000000 }) (disch := first | omega | (simp only [a1, fa hq, hf, kf, q32, qb_in, qkW, qmW, qnW, true_and, and_true, or_self, true_or, or_true, and_self]; done) | (simp only [a1, fa hq, hf, kf, q32, qb_in, qkW, qmW, qnW, true_and, and_true, or_self, true_or, or_true, and_self]; omega)) only [b29_0, b29_16, b29_23, b29_30, b29_47, b29_62, b29_79, b29_82, b29_85, b29_103, b29_120, b29_126, b29_132, b29_138, qcall_l, qcall_r, qretn_l, qJ_s, qJ_n, qV0, qEx, ↓qif0, ↓zchk_pos, ↓reduceIte, qput, qWW, qmW, qkW, qnW, a1, hf, kf, fa hq, g1, if_neg (show ¬ n - j - 1 < 0 by omega), eo, q32]
      rw [r1, b29_132]
      simp (disch := omega) only [q32]
      rw [show n - (j : Int) - 1 + -1 = n - ((j + 1 : Nat) : Int) - 1 by omega]
      exact r2
  obtain ⟨m1, r1, q1⟩ := outer n.toNat 0 (qu (zm S) fd n 0) vu vu vu vu vu (by omega) (fun x hx => qu_o _ _ _ _ _ hx) (fun i i1 i2 => by
    have : i = n := by omega
    rw [this, qu_s]
    show 0 = if n = n then 0 else 0
    rw [if_pos rfl])
  refine ⟨m1, ?_, q1⟩
  have esw : qu (zm S) fd n 0 sw = zm S sw := qu_o _ _ _ _ _ (qkne kw kf (by decide))
  rw [show n - ((0 : Nat) : Int) - 1 = n - 1 by omega] at r1
  simp (config := { maxSteps := 2000000 }) (disch := first | omega | (simp only [a1, kw, hf, kf, pn, esw, qb_in, qkW, qmW, qnW, true_and, and_true, or_self, true_or, or_true, and_self]; done) | (simp only [a1, kw, hf, kf, pn, esw, qb_in, qkW, qmW, qnW, true_and, and_true, or_self, true_or, or_true, and_self]; omega)) only [zD_29, b29_0, b29_16, b29_23, b29_30, b29_47, b29_62, b29_79, b29_82, b29_85, b29_103, b29_120, b29_126, b29_132, b29_138, qcall_l, qcall_r, qretn_l, qJ_s, qJ_n, qV0, qEx, ↓qif0, ↓zchk_pos, ↓reduceIte, qput, qWW, qmW, qkW, qnW, a1, kw, hf, kf, pn, esw, q32, r1]
theorem s_countRows (d : Nat) (S : zS) (a N g sw sb D P n fd : Int) (T : Int → Int → Int) (ws : Int → Int) (h : 4 ≤ d) (ha : qCo S a N T) (hT : qTok T N)
    (kw : zk S sw = (28, 0)) (pw : zm S sw 0 = sb) (kb : zk S sb = (0, 10)) (pn : zm S sw 1 = n) (hn : 0 < n ∧ n ≤ 10) (hw : ∀ j, 0 ≤ j → j < n → zm S sb j = ws j) (hD : qDo S D P n) (hf : zm S a 2 = fd) (kf : zk S fd = (1, 17)) :
    ∃ m', zD d 30 [vr a, vr sw, vr D, vi g] S = some (.inl (some (vl (qtab n 1 (qsW T N g ws P n) n.toNat 0))), qW S m') ∧ (∀ x, x ≠ fd → m' x = zm S x) := by
  obtain ⟨e, rfl, h1⟩ := qd h
  have a1 := ha.1
  have a2 := ha.2.1
  have a3 := ha.2.2.1
  have hN := ha.2.2.2.1
  have fsw : ∀ {m : Int → Int → Int}, (∀ x, x ≠ fd → m x = zm S x) → m sw = zm S sw := fun hq => hq sw (qkne kw kf (by decide))
  have fsb : ∀ {m : Int → Int → Int}, (∀ x, x ≠ fd → m x = zm S x) → m sb = zm S sb := fun hq => hq sb (qkne kb kf (by decide))
  have fa : ∀ {m : Int → Int → Int}, (∀ x, x ≠ fd → m x = zm S x) → m a = zm S a := fun hq => hq a (qkne a1 kf (by decide))
  have fco : ∀ {m : Int → Int → Int}, (∀ x, x ≠ fd → m x = zm S x) → qCo (qW S m) a N T := fun hq => qCo_k ha fun x hx => hq x (fun q => by rw [q, kf] at hx; revert hx; decide)
  have fdo : ∀ {m : Int → Int → Int}, (∀ x, x ≠ fd → m x = zm S x) → qDo (qW S m) D P n := fun hq => qDo_g hD fun h0 => by
    rcases hD with hD | ⟨-, k1, p1, k2, -⟩
    · exact absurd hD.1 h0
    · exact ⟨hq D (qkne k1 kf (by decide)), hq _ (qkne k2 kf (by decide))⟩
  have inner : ∀ (at_ : Int) (F : Int → Int) (hat : 0 ≤ at_ ∧ at_ < n) (f : Nat) (k v : Int) (m : Int → Int → Int), 0 ≤ k → k + f = N → (∀ x, x ≠ fd → m x = zm S x) → (∀ i, at_ < i → i ≤ n → m fd i = F i) → m fd at_ = v →
      ∃ m', zF_30 e 51 [vr a, vr sw, vr D, vi g, vi at_, vi (qEn P n at_), vi k] [] (qW S m) = zF_30 e 113 [vr a, vr sw, vr D, vi g, vi at_, vi (qEn P n at_), vi N] [] (qW S m') ∧ (∀ x, x ≠ fd → m' x = zm S x) ∧ (∀ i, at_ < i → i ≤ n → m' fd i = F i) ∧ m' fd at_ = qdf (quW T g ws P n F at_) f k v := by
    intro at_ F hat f
    induction f with
    | zero =>
      intro k v m h2 h3 hq hF hv
      have hk : k = N := by omega
      subst hk
      refine ⟨m, ?_, hq, hF, hv⟩
      rw [b30_51]
      simp (config := { maxSteps := 2000000 }) (disch := first | omega | (simp only [a1, qb_in, qkW, qmW, qnW, true_and, and_true, or_self, true_or, or_true, and_self]; done) | (simp only [a1, qb_in, qkW, qmW, qnW, true_and, and_true, or_self, true_or, or_true, and_self]; omega)) only [b30_0, b30_16, b30_23, b30_30, b30_47, b30_60, b30_76, b30_79, b30_97, b30_107, b30_119, qcall_l, qcall_r, qretn_l, qJ_s, qJ_n, qV0, qEx, ↓qif0, ↓zchk_pos, ↓reduceIte, qput, qWW, qmW, qkW, qnW, a1, fa hq, a3, Int.lt_irrefl]
    | succ f ih =>
      intro k v m h2 h3 hq hF hv
      have hc' := (fco hq).2.2.2.2 k h2 (by omega)
      have hst := s_standsIn e (qW S m) _ k g sw sb n at_ (qEn P n at_) T ws (by omega) hc' kw (by rw [qmW, fsw hq, pw]) kb (by rw [qmW, fsw hq, pn]) hn.2 (qEn_s P n at_ ⟨hat.1, hat.2, hn.2⟩).2.1 (by omega) (fun j j1 j2 => by rw [qmW, fsb hq]; exact hw j j1 j2)
      have y1 : zk S (m (zm S a 0) k) = (23, 0) := by rw [← fa hq]; exact hc'.1
      have z1 : m (m (zm S a 0) k) 1 = T 0 k := by rw [← fa hq]; exact hc'.2.2.1
      simp only [qmW, fa hq] at hst
      rw [b30_51]
      by_cases c0 : qc (qCW T k g ws n (qEn P n at_) at_) = 0
      · rw [c0] at hst
        obtain ⟨m', r, p⟩ := ih (k + 1) v m (by omega) (by omega) hq hF hv
        refine ⟨m', ?_, ?_⟩
        · simp (config := { maxSteps := 2000000 }) (disch := first | omega | (simp only [a1, a2, fa hq, y1, qb_in, qkW, qmW, qnW, true_and, and_true, or_self, true_or, or_true, and_self]; done) | (simp only [a1, a2, fa hq, y1, qb_in, qkW, qmW, qnW, true_and, and_true, or_self, true_or, or_true, and_self]; omega)) only [b30_0, b30_16, b30_23, b30_30, b30_47, b30_60, b30_76, b30_79, b30_97, b30_107, b30_119, qcall_l, qcall_r, qretn_l, qJ_s, qJ_n, qV0, qEx, ↓qif0, ↓zchk_pos, ↓reduceIte, qput, qWW, qmW, qkW, qnW, a1, a2, a3, y1, fa hq, if_pos (show k < N by omega), hst, q32]
          exact r
        · have e1 : qdf (quW T g ws P n F at_) (f + 1) k v = qdf (quW T g ws P n F at_) f (k + 1) v := by
            show qdf _ f (k + 1) (quW T g ws P n F at_ k v) = _
            unfold quW
            rw [if_pos c0]
          rw [e1]
          exact p
      · have hcw := qc_1 c0
        have hE := (qEn_s P n at_ ⟨hat.1, hat.2, hn.2⟩).2.1
        have h5 := hcw.2.1
        have ht := (hT k h2 (by omega)).1
        have gF := hF (at_ + T 0 k) (by omega) (by omega)
        rw [qc_p hcw] at hst
        generalize hV : z64 (v + F (at_ + T 0 k)) = V
        obtain ⟨m', r, p⟩ := ih (k + 1) V (qu m fd at_ V) (by omega) (by omega) (fun x hx => (qu_o _ _ _ _ _ hx).trans (hq x hx)) (fun i i1 i2 => by rw [qu_i _ _ _ _ _ (by omega)]; exact hF i i1 i2) (qu_s _ _ _ _)
        refine ⟨m', ?_, ?_⟩
        · simp (config := { maxSteps := 2000000 }) (disch := first | omega | (simp only [a1, a2, fa hq, y1, hf, kf, q32, z1, qb_in, qkW, qmW, qnW, true_and, and_true, or_self, true_or, or_true, and_self]; done) | (simp only [a1, a2, fa hq, y1, hf, kf, q32, z1, qb_in, qkW, qmW, qnW, true_and, and_true, or_self, true_or, or_true, and_self]; omega)) only [b30_0, b30_16, b30_23, b30_30, b30_47, b30_60, b30_76, b30_79, b30_97, b30_107, b30_119, qcall_l, qcall_r, qretn_l, qJ_s, qJ_n, qV0, qEx, ↓qif0, ↓zchk_pos, ↓reduceIte, qput, qWW, qmW, qkW, qnW, a1, a2, a3, y1, z1, hf, kf, fa hq, if_pos (show k < N by omega), hst, Int.reduceEq, q32, gF, hv, hV]
          exact r
        · have e1 : qdf (quW T g ws P n F at_) (f + 1) k v = qdf (quW T g ws P n F at_) f (k + 1) V := by
            show qdf _ f (k + 1) (quW T g ws P n F at_ k v) = _
            unfold quW
            rw [if_neg c0, hV]
          rw [e1]
          exact p
  have outer : ∀ (f j : Nat) (m : Int → Int → Int) (y5 y6 : zV), (j : Int) + f = n → (∀ x, x ≠ fd → m x = zm S x) → (∀ i, n - j ≤ i → i ≤ n → m fd i = qtab n 1 (qsW T N g ws P n) j i) →
      ∃ m', zF_30 e 18 [vr a, vr sw, vr D, vi g, vi (n - j - 1), y5, y6] [] (qW S m) = some (.inl (some (vl (qtab n 1 (qsW T N g ws P n) n.toNat 0))), qW S m') ∧ (∀ x, x ≠ fd → m' x = zm S x) := by
    intro f
    induction f with
    | zero =>
      intro j m y5 y6 h2 hq hF
      have g1 := hF 0 (by omega) (by omega)
      rw [show j = n.toNat by omega] at g1
      refine ⟨m, ?_, hq⟩
      rw [b30_18]
      simp (config := { maxSteps := 2000000 }) (disch := first | omega | (simp only [a1, fa hq, hf, kf, qb_in, qkW, qmW, qnW, true_and, and_true, or_self, true_or, or_true, and_self]; done) | (simp only [a1, fa hq, hf, kf, qb_in, qkW, qmW, qnW, true_and, and_true, or_self, true_or, or_true, and_self]; omega)) only [b30_0, b30_16, b30_23, b30_30, b30_47, b30_60, b30_76, b30_79, b30_97, b30_107, b30_113, b30_119, qcall_l, qcall_r, qretn_l, qJ_s, qJ_n, qV0, qEx, ↓qif0, ↓zchk_pos, ↓reduceIte, qput, qWW, qmW, qkW, qnW, a1, hf, kf, fa hq, g1, if_pos (show n - j - 1 < 0 by omega)]
    | succ f ih =>
      intro j m y5 y6 h2 hq hF
      have g1 := hF (n - j - 1 + 1) (by omega) (by omega)
      have eo := s_endOfPart e (qW S m) sw D P n (n - j - 1) (by omega) kw (by rw [qmW, fsw hq, pn]) (fdo hq) (by omega)
      obtain ⟨m1, r1, q1, F1, v1⟩ := inner (n - j - 1) (qtab n 1 (qsW T N g ws P n) j) (by omega) N.toNat 0 (qtab n 1 (qsW T N g ws P n) j (n - j - 1 + 1)) (qu m fd (n - j - 1) (qtab n 1 (qsW T N g ws P n) j (n - j - 1 + 1))) (by omega) (by omega) (fun x hx => (qu_o _ _ _ _ _ hx).trans (hq x hx)) (fun i i1 i2 => by rw [qu_i _ _ _ _ _ (by omega)]; exact hF i (by omega) i2) (qu_s _ _ _ _)
      obtain ⟨m2, r2, q2⟩ := ih (j + 1) m1 vu vu (by omega) q1 (fun i i1 i2 => by
        show _ = if i = n - ((j : Int) + 1) then _ else _
        by_cases c : i = n - ((j : Int) + 1)
        · rw [if_pos c, c, show n - ((j : Int) + 1) = n - j - 1 by omega]
          exact v1
        · rw [if_neg c]
          exact F1 i (by omega) i2)
      refine ⟨m2, ?_, q2⟩
      rw [b30_18]
      simp (config := { maxSteps := 2000000 }) (disch := first | omega | (simp only [a1, fa hq, hf, kf, q32, qb_in, qkW, qmW, qnW, true_and, and_true, or_self, true_or, or_true, and_self]; done) | (simp only [a1, fa hq, hf, kf, q32, qb_in, qkW, qmW, qnW, true_and, and_true, or_self, true_or, or_true, and_self]; omega)) only [b30_0, b30_16, b30_23, b30_30, b30_47, b30_60, b30_76, b30_79, b30_97, b30_107, b30_113, b30_119, qcall_l, qcall_r, qretn_l, qJ_s, qJ_n, qV0, qEx, ↓qif0, ↓zchk_pos, ↓reduceIte, qput, qWW, qmW, qkW, qnW, a1, hf, kf, fa hq, g1, if_neg (show ¬ n - j - 1 < 0 by omega), eo, q32]
      rw [r1, b30_113]
      simp (disch := omega) only [q32]
      rw [show n - (j : Int) - 1 + -1 = n - ((j + 1 : Nat) : Int) - 1 by omega]
      exact r2
  obtain ⟨m1, r1, q1⟩ := outer n.toNat 0 (qu (zm S) fd n 1) vu vu (by omega) (fun x hx => qu_o _ _ _ _ _ hx) (fun i i1 i2 => by
    have : i = n := by omega
    rw [this, qu_s]
    show 1 = if n = n then 1 else 0
    rw [if_pos rfl])
  refine ⟨m1, ?_, q1⟩
  have esw : qu (zm S) fd n 1 sw = zm S sw := qu_o _ _ _ _ _ (qkne kw kf (by decide))
  rw [show n - ((0 : Nat) : Int) - 1 = n - 1 by omega] at r1
  simp (config := { maxSteps := 2000000 }) (disch := first | omega | (simp only [a1, kw, hf, kf, pn, esw, qb_in, qkW, qmW, qnW, true_and, and_true, or_self, true_or, or_true, and_self]; done) | (simp only [a1, kw, hf, kf, pn, esw, qb_in, qkW, qmW, qnW, true_and, and_true, or_self, true_or, or_true, and_self]; omega)) only [zD_30, b30_0, b30_16, b30_23, b30_30, b30_47, b30_60, b30_76, b30_79, b30_97, b30_107, b30_113, b30_119, qcall_l, qcall_r, qretn_l, qJ_s, qJ_n, qV0, qEx, ↓qif0, ↓zchk_pos, ↓reduceIte, qput, qWW, qmW, qkW, qnW, a1, kw, hf, kf, pn, esw, q32, r1]
theorem s_countReadings (d : Nat) (S : zS) (a N g w b c mk con fd : Int) (T : Int → Int → Int) (L E : List Int) (h : 4 ≤ d) (hK : qK S) (hL : qLt (zm S)) (ha : qCo S a N T) (hT : qTok T N) (hk : qWk S w b c) (hp : qWp (zm S) w b c L mk con E) (hl : 0 < L.length ∧ L.length ≤ 16) (hf : zm S a 2 = fd) (kf : zk S fd = (1, 17)) :
    ∃ m', zD d 31 [vr a, vr w, vi g] S = some (.inl (some (vl (qtab L.length 1 (qsR T N g (qnth L) L.length) L.length 0))), qW S m') ∧ (∀ x, x ≠ fd → m' x = zm S x) := by
  obtain ⟨e, rfl, h1⟩ := qd h
  have a1 := ha.1
  have a2 := ha.2.1
  have a3 := ha.2.2.1
  have hN := ha.2.2.2.1
  obtain ⟨w1, w2, w3, n1, n2, n3⟩ := hk
  have fw : ∀ {m : Int → Int → Int}, (∀ x, x ≠ fd → m x = zm S x) → qWp m w b c L mk con E := fun hq => qWp_o hp (hq w (qkne w1 kf (by decide))) (hq b (qkne w2 kf (by decide))) (hq c (qkne w3 kf (by decide)))
  have f2 : ∀ {m : Int → Int → Int}, (∀ x, x ≠ fd → m x = zm S x) → qLt m := fun hq q hm => by
    rw [hq 2 (qkne (K_2 hK) kf (by decide))]
    exact hL q hm
  have fa : ∀ {m : Int → Int → Int}, (∀ x, x ≠ fd → m x = zm S x) → m a = zm S a := fun hq => hq a (qkne a1 kf (by decide))
  have fco : ∀ {m : Int → Int → Int}, (∀ x, x ≠ fd → m x = zm S x) → qCo (qW S m) a N T := fun hq => qCo_k ha fun x hx => hq x (fun q => by rw [q, kf] at hx; revert hx; decide)
  have inner : ∀ (at_ : Int) (F : Int → Int) (hat : 0 ≤ at_ ∧ at_ < L.length) (f : Nat) (k v : Int) (m : Int → Int → Int), 0 ≤ k → k + f = N → (∀ x, x ≠ fd → m x = zm S x) → (∀ i, at_ < i → i ≤ L.length → m fd i = F i) → m fd at_ = v →
      ∃ m', zF_31 e 55 [vr a, vr w, vi g, vi at_, vi k] [] (qW S m) = zF_31 e 120 [vr a, vr w, vi g, vi at_, vi N] [] (qW S m') ∧ (∀ x, x ≠ fd → m' x = zm S x) ∧ (∀ i, at_ < i → i ≤ L.length → m' fd i = F i) ∧ m' fd at_ = qdf (quR T g (qnth L) L.length F at_) f k v := by
    intro at_ F hat f
    induction f with
    | zero =>
      intro k v m h2 h3 hq hF hv
      have hk : k = N := by omega
      subst hk
      refine ⟨m, ?_, hq, hF, hv⟩
      rw [b31_55]
      simp (config := { maxSteps := 2000000 }) (disch := first | omega | (simp only [a1, qb_in, qkW, qmW, qnW, true_and, and_true, or_self, true_or, or_true, and_self]; done) | (simp only [a1, qb_in, qkW, qmW, qnW, true_and, and_true, or_self, true_or, or_true, and_self]; omega)) only [b31_0, b31_16, b31_21, b31_35, b31_39, b31_43, b31_51, b31_64, b31_81, b31_85, b31_88, b31_104, b31_110, b31_114, b31_126, qcall_l, qcall_r, qretn_l, qJ_s, qJ_n, qV0, qEx, ↓qif0, ↓zchk_pos, ↓reduceIte, qput, qWW, qmW, qkW, qnW, a1, fa hq, a3, Int.lt_irrefl]
    | succ f ih =>
      intro k v m h2 h3 hq hF hv
      have hc' := (fco hq).2.2.2.2 k h2 (by omega)
      obtain ⟨p0, -, p1, -, -, -, p6, -⟩ := fw hq
      have hst := s_isReadIn e (qW S m) _ k g b 0 L.length at_ T (qnth L) (by omega) hc' w2 (by omega) (fun j j1 j2 => by rw [qmW, show (0 : Int) + j = j by omega]; exact qA_n p6 j j1 (by omega))
      rw [show (L.length : Int) - 0 = L.length by omega, show at_ - 0 = at_ by omega] at hst
      have y1 : zk S (m (zm S a 0) k) = (23, 0) := by rw [← fa hq]; exact hc'.1
      have z5 : m (m (zm S a 0) k) 5 = T 4 k := by rw [← fa hq]; exact hc'.2.2.2.2.2.2.1
      simp only [qmW, fa hq] at hst
      rw [b31_55]
      by_cases c0 : qc (qCR T k g (qnth L) L.length at_) = 0
      · rw [c0] at hst
        obtain ⟨m', r, p⟩ := ih (k + 1) v m (by omega) (by omega) hq hF hv
        refine ⟨m', ?_, ?_⟩
        · simp (config := { maxSteps := 2000000 }) (disch := first | omega | (simp only [a1, a2, w1, fa hq, y1, qb_in, qkW, qmW, qnW, true_and, and_true, or_self, true_or, or_true, and_self]; done) | (simp only [a1, a2, w1, fa hq, y1, qb_in, qkW, qmW, qnW, true_and, and_true, or_self, true_or, or_true, and_self]; omega)) only [b31_0, b31_16, b31_21, b31_35, b31_39, b31_43, b31_51, b31_64, b31_81, b31_85, b31_88, b31_104, b31_110, b31_114, b31_126, qcall_l, qcall_r, qretn_l, qJ_s, qJ_n, qV0, qEx, ↓qif0, ↓zchk_pos, ↓reduceIte, qput, qWW, qmW, qkW, qnW, a1, a2, a3, w1, p0, p1, y1, fa hq, if_pos (show k < N by omega), hst, q32]
          exact r
        · have e1 : qdf (quR T g (qnth L) L.length F at_) (f + 1) k v = qdf (quR T g (qnth L) L.length F at_) f (k + 1) v := by
            show qdf _ f (k + 1) (quR T g (qnth L) L.length F at_ k v) = _
            unfold quR
            rw [if_pos c0]
          rw [e1]
          exact p
      · have hcw := qc_1 c0
        have h5 := hcw.2.1
        have hcn := qcn_r (T 4 k)
        have gF := hF (at_ + qcn (T 4 k)) (by omega) (by omega)
        have cc := s_countCells e (qW S m) (m (zm S a 0) k) (by omega) y1
        rw [qmW, z5] at cc
        rw [qc_p hcw] at hst
        generalize hV : z64 (v + F (at_ + qcn (T 4 k))) = V
        obtain ⟨m', r, p⟩ := ih (k + 1) V (qu m fd at_ V) (by omega) (by omega) (fun x hx => (qu_o _ _ _ _ _ hx).trans (hq x hx)) (fun i i1 i2 => by rw [qu_i _ _ _ _ _ (by omega)]; exact hF i i1 i2) (qu_s _ _ _ _)
        refine ⟨m', ?_, ?_⟩
        · simp (config := { maxSteps := 2000000 }) (disch := first | omega | (simp only [a1, a2, w1, fa hq, y1, hf, kf, q32, qb_in, qkW, qmW, qnW, true_and, and_true, or_self, true_or, or_true, and_self]; done) | (simp only [a1, a2, w1, fa hq, y1, hf, kf, q32, qb_in, qkW, qmW, qnW, true_and, and_true, or_self, true_or, or_true, and_self]; omega)) only [b31_0, b31_16, b31_21, b31_35, b31_39, b31_43, b31_51, b31_64, b31_81, b31_85, b31_88, b31_104, b31_110, b31_114, b31_126, qcall_l, qcall_r, qretn_l, qJ_s, qJ_n, qV0, qEx, ↓qif0, ↓zchk_pos, ↓reduceIte, qput, qWW, qmW, qkW, qnW, a1, a2, a3, w1, p0, p1, y1, hf, kf, fa hq, if_pos (show k < N by omega), hst, Int.reduceEq, q32, cc, gF, hv, hV]
          exact r
        · have e1 : qdf (quR T g (qnth L) L.length F at_) (f + 1) k v = qdf (quR T g (qnth L) L.length F at_) f (k + 1) V := by
            show qdf _ f (k + 1) (quR T g (qnth L) L.length F at_ k v) = _
            unfold quR
            rw [if_neg c0, hV]
          rw [e1]
          exact p
  have outer : ∀ (f j : Nat) (m : Int → Int → Int) (y4 : zV), j + f = L.length → (∀ x, x ≠ fd → m x = zm S x) → (∀ i, (L.length : Int) - j ≤ i → i ≤ L.length → m fd i = qtab L.length 1 (qsR T N g (qnth L) L.length) j i) →
      ∃ m', zF_31 e 17 [vr a, vr w, vi g, vi ((L.length : Int) - j - 1), y4] [] (qW S m) = some (.inl (some (vl (qtab L.length 1 (qsR T N g (qnth L) L.length) L.length 0))), qW S m') ∧ (∀ x, x ≠ fd → m' x = zm S x) := by
    intro f
    induction f with
    | zero =>
      intro j m y4 h2 hq hF
      have g1 := hF 0 (by omega) (by omega)
      rw [show j = L.length by omega] at g1
      refine ⟨m, ?_, hq⟩
      rw [b31_17]
      simp (config := { maxSteps := 2000000 }) (disch := first | omega | (simp only [a1, fa hq, hf, kf, qb_in, qkW, qmW, qnW, true_and, and_true, or_self, true_or, or_true, and_self]; done) | (simp only [a1, fa hq, hf, kf, qb_in, qkW, qmW, qnW, true_and, and_true, or_self, true_or, or_true, and_self]; omega)) only [b31_0, b31_16, b31_21, b31_35, b31_39, b31_43, b31_51, b31_64, b31_81, b31_85, b31_88, b31_104, b31_110, b31_114, b31_120, b31_126, qcall_l, qcall_r, qretn_l, qJ_s, qJ_n, qV0, qEx, ↓qif0, ↓zchk_pos, ↓reduceIte, qput, qWW, qmW, qkW, qnW, a1, hf, kf, fa hq, g1, if_pos (show (L.length : Int) - j - 1 < 0 by omega)]
    | succ f ih =>
      intro j m y4 h2 hq hF
      have g1 := hF ((L.length : Int) - j - 1 + 1) (by omega) (by omega)
      obtain ⟨p0, -, p1, -, -, -, p6, -⟩ := fw hq
      have gl := qA_n p6 ((L.length : Int) - j - 1) (by omega) (by omega)
      have lo := s_letterOf e (qW S m) (qnth L ((L.length : Int) - j - 1)) (by omega) hK (f2 hq)
      obtain ⟨m1, r1, q1, F1, v1⟩ := inner ((L.length : Int) - j - 1) (qtab L.length 1 (qsR T N g (qnth L) L.length) j) (by omega) N.toNat 0 (if qlo (qnth L ((L.length : Int) - j - 1)) = -1 then 0 else qtab L.length 1 (qsR T N g (qnth L) L.length) j ((L.length : Int) - j - 1 + 1)) (qu m fd ((L.length : Int) - j - 1) (if qlo (qnth L ((L.length : Int) - j - 1)) = -1 then 0 else qtab L.length 1 (qsR T N g (qnth L) L.length) j ((L.length : Int) - j - 1 + 1))) (by omega) (by omega) (fun x hx => (qu_o _ _ _ _ _ hx).trans (hq x hx)) (fun i i1 i2 => by rw [qu_i _ _ _ _ _ (by omega)]; exact hF i (by omega) i2) (qu_s _ _ _ _)
      obtain ⟨m2, r2, q2⟩ := ih (j + 1) m1 vu (by omega) q1 (fun i i1 i2 => by
        show _ = if i = (L.length : Int) - ((j : Int) + 1) then _ else _
        by_cases c : i = (L.length : Int) - ((j : Int) + 1)
        · rw [if_pos c, c, show (L.length : Int) - ((j : Int) + 1) = L.length - j - 1 by omega]
          exact v1
        · rw [if_neg c]
          exact F1 i (by omega) i2)
      refine ⟨m2, ?_, q2⟩
      rw [b31_17]
      by_cases c1 : qlo (qnth L ((L.length : Int) - j - 1)) = -1
      · rw [if_pos c1] at r1
        simp (config := { maxSteps := 2000000 }) (disch := first | omega | (simp only [a1, w1, w2, p0, fa hq, hf, kf, q32, qb_in, qkW, qmW, qnW, true_and, and_true, or_self, true_or, or_true, and_self]; done) | (simp only [a1, w1, w2, p0, fa hq, hf, kf, q32, qb_in, qkW, qmW, qnW, true_and, and_true, or_self, true_or, or_true, and_self]; omega)) only [b31_0, b31_16, b31_21, b31_35, b31_39, b31_43, b31_51, b31_64, b31_81, b31_85, b31_88, b31_104, b31_110, b31_114, b31_120, b31_126, qcall_l, qcall_r, qretn_l, qJ_s, qJ_n, qV0, qEx, ↓qif0, ↓zchk_pos, ↓reduceIte, qput, qWW, qmW, qkW, qnW, a1, w1, w2, p0, hf, kf, fa hq, g1, gl, lo, if_neg (show ¬ (L.length : Int) - j - 1 < 0 by omega), if_pos c1, q32]
        rw [r1, b31_120]
        simp (disch := omega) only [q32]
        rw [show (L.length : Int) - (j : Int) - 1 + -1 = L.length - ((j + 1 : Nat) : Int) - 1 by omega]
        exact r2
      · rw [if_neg c1] at r1
        simp (config := { maxSteps := 2000000 }) (disch := first | omega | (simp only [a1, w1, w2, p0, fa hq, hf, kf, q32, qb_in, qkW, qmW, qnW, true_and, and_true, or_self, true_or, or_true, and_self]; done) | (simp only [a1, w1, w2, p0, fa hq, hf, kf, q32, qb_in, qkW, qmW, qnW, true_and, and_true, or_self, true_or, or_true, and_self]; omega)) only [b31_0, b31_16, b31_21, b31_35, b31_39, b31_43, b31_51, b31_64, b31_81, b31_85, b31_88, b31_104, b31_110, b31_114, b31_120, b31_126, qcall_l, qcall_r, qretn_l, qJ_s, qJ_n, qV0, qEx, ↓qif0, ↓zchk_pos, ↓reduceIte, qput, qWW, qmW, qkW, qnW, a1, w1, w2, p0, hf, kf, fa hq, g1, gl, lo, if_neg (show ¬ (L.length : Int) - j - 1 < 0 by omega), if_neg c1, q32]
        rw [r1, b31_120]
        simp (disch := omega) only [q32]
        rw [show (L.length : Int) - (j : Int) - 1 + -1 = L.length - ((j + 1 : Nat) : Int) - 1 by omega]
        exact r2
  obtain ⟨m1, r1, q1⟩ := outer L.length 0 (qu (zm S) fd L.length 1) vu (by omega) (fun x hx => qu_o _ _ _ _ _ hx) (fun i i1 i2 => by
    have : i = L.length := by omega
    rw [this, qu_s]
    show 1 = if (L.length : Int) = L.length then 1 else 0
    rw [if_pos rfl])
  refine ⟨m1, ?_, q1⟩
  have ew : qu (zm S) fd L.length 1 w = zm S w := qu_o _ _ _ _ _ (qkne w1 kf (by decide))
  have p1 := hp.2.2.1
  rw [show (L.length : Int) - ((0 : Nat) : Int) - 1 = L.length - 1 by omega] at r1
  simp (config := { maxSteps := 2000000 }) (disch := first | omega | (simp only [a1, w1, hf, kf, p1, ew, qb_in, qkW, qmW, qnW, true_and, and_true, or_self, true_or, or_true, and_self]; done) | (simp only [a1, w1, hf, kf, p1, ew, qb_in, qkW, qmW, qnW, true_and, and_true, or_self, true_or, or_true, and_self]; omega)) only [zD_31, b31_0, b31_16, b31_21, b31_35, b31_39, b31_43, b31_51, b31_64, b31_81, b31_85, b31_88, b31_104, b31_110, b31_114, b31_120, b31_126, qcall_l, qcall_r, qretn_l, qJ_s, qJ_n, qV0, qEx, ↓qif0, ↓zchk_pos, ↓reduceIte, qput, qWW, qmW, qkW, qnW, a1, w1, hf, kf, p1, ew, q32, r1]
