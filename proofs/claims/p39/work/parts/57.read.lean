/-! Rows of cells are read as letters. -/
theorem qCo_k {S : zS} {a N : Int} {T : Int → Int → Int} {m' : Int → Int → Int} (ha : qCo S a N T) (hf : ∀ x, (zk S x = (22, 0) ∨ zk S x = (12, 24) ∨ zk S x = (23, 0) ∨ zk S x = (0, 6)) → m' x = zm S x) : qCo (qW S m') a N T := by
  obtain ⟨k1, k2, x1, hN, hc⟩ := ha
  have e1 : m' a = zm S a := hf a (Or.inl k1)
  have e2 : m' (zm S a 0) = zm S (zm S a 0) := hf _ (Or.inr (Or.inl k2))
  refine ⟨k1, ?_, ?_, hN, fun k h1 h2 => ?_⟩
  · show zk S (m' a 0) = _
    rw [e1, k2]
  · show m' a 1 = _
    rw [e1, x1]
  · show qCt (qW S m') (m' (m' a 0) k) T k
    rw [e1, e2]
    obtain ⟨z1, z2, z3, z4, z5, z6, z7, z8, z9, z10⟩ := hc k h1 h2
    have e3 : m' (zm S (zm S a 0) k) = zm S (zm S (zm S a 0) k) := hf _ (Or.inr (Or.inr (Or.inl z1)))
    have e4 : m' (zm S (zm S (zm S a 0) k) 0) = zm S (zm S (zm S (zm S a 0) k) 0) := hf _ (Or.inr (Or.inr (Or.inr z2)))
    refine ⟨z1, ?_, ?_, ?_, ?_, ?_, ?_, z8, z9, fun j h3 h4 => ?_⟩
    · show zk S (m' _ 0) = _
      rw [e3, z2]
    · show m' _ 1 = _
      rw [e3, z3]
    · show m' _ 2 = _
      rw [e3, z4]
    · show m' _ 3 = _
      rw [e3, z5]
    · show m' _ 4 = _
      rw [e3, z6]
    · show m' _ 5 = _
      rw [e3, z7]
    · show m' (m' _ 0) j = _
      rw [e3, e4, z10 j h3 h4]
def qSq (m : Int → Int → Int) (a b : Int) (L : List Int) (st dg bg mk : Int) : Prop := m a 0 = b ∧ m a 1 = L.length ∧ m a 2 = st ∧ m a 3 = dg ∧ m a 4 = bg ∧ m a 5 = mk ∧ qA m b L
def qSk (S : zS) (a b : Int) : Prop := zk S a = (28, 0) ∧ zk S b = (0, 10)
def qfs (a b : Int) (m m' : Int → Int → Int) : Prop := (∀ x, x ≠ a → x ≠ b → m' x = m x) ∧ m' a 0 = m a 0
theorem qfs_r (a b : Int) (m : Int → Int → Int) : qfs a b m m := ⟨fun _ _ _ => rfl, rfl⟩
theorem qfs_t {a b : Int} {m m1 m2 : Int → Int → Int} (h : qfs a b m m1) (g : qfs a b m1 m2) : qfs a b m m2 := ⟨fun x h1 h2 => (g.1 x h1 h2).trans (h.1 x h1 h2), g.2.trans h.2⟩
theorem s_sqAppend (d : Nat) (S : zS) (a b v st dg bg mk : Int) (L : List Int) (h : 1 ≤ d) (hk : qSk S a b) (hs : qSq (zm S) a b L st dg bg mk) :
    ∃ m', zD d 83 [vr a, vi v] S = some (.inl (some (vi (if L.length < 10 then 1 else 0))), qW S m') ∧ (L.length < 10 → qSq m' a b (L ++ [v]) st dg bg mk) ∧ qfs a b (zm S) m' := by
  obtain ⟨k1, k2⟩ := hk
  obtain ⟨p0, p1, p2, p3, p4, p5, p6⟩ := hs
  have hab : a ≠ b := qkne k1 k2 (by decide)
  have := s_spAppend d S a b v h k1 p0 k2 (by omega)
  rw [this, p1]
  by_cases c : L.length < 10
  · rw [if_pos (show (L.length : Int) < 10 by omega), if_pos c]
    have e1 : qu (zm S) b L.length v a = zm S a := qu_o _ _ _ _ _ hab
    refine ⟨_, rfl, fun _ => ⟨?_, ?_, ?_, ?_, ?_, ?_, ?_⟩, fun x h1 h2 => ?_, ?_⟩
    · rw [qu_i _ _ _ _ _ (by decide), e1, p0]
    · rw [qu_s, List.length_append]; rfl
    · rw [qu_i _ _ _ _ _ (by decide), e1, p2]
    · rw [qu_i _ _ _ _ _ (by decide), e1, p3]
    · rw [qu_i _ _ _ _ _ (by decide), e1, p4]
    · rw [qu_i _ _ _ _ _ (by decide), e1, p5]
    · exact qA_o (qA_push p6 v) (qu_o _ _ _ _ _ (Ne.symm hab))
    · rw [qu_o _ _ _ _ _ h1, qu_o _ _ _ _ _ h2]
    · rw [qu_i _ _ _ _ _ (by decide), e1]
  · rw [if_neg (show ¬ (L.length : Int) < 10 by omega), if_neg c]
    exact ⟨zm S, by rw [qWS], fun q => absurd q c, qfs_r _ _ _⟩
theorem s_sqLetter (d : Nat) (S : zS) (a b v st dg bg mk : Int) (L : List Int) (h : 2 ≤ d) (hk : qSk S a b) (hs : qSq (zm S) a b L st dg bg mk) :
    ∃ m', zD d 84 [vr a, vi v] S = some (.inl (some (vi (if v ≠ -1 ∧ L.length < 10 then 1 else 0))), qW S m') ∧ (v ≠ -1 → L.length < 10 → qSq m' a b (L ++ [v]) st dg bg mk) ∧ qfs a b (zm S) m' := by
  obtain ⟨e, rfl, h1⟩ := qd h
  by_cases c : v = -1
  · refine ⟨zm S, ?_, fun q => absurd c q, qfs_r _ _ _⟩
    rw [if_neg (show ¬ (v ≠ -1 ∧ L.length < 10) from fun q => q.1 c), qWS]
    simp (config := { maxSteps := 2000000 }) (disch := first | omega | (simp only [qb_in, qkW, qmW, qnW, true_and, and_true, or_self, true_or, or_true, and_self]; done) | (simp only [qb_in, qkW, qmW, qnW, true_and, and_true, or_self, true_or, or_true, and_self]; omega)) only [zD_84, b84_0, b84_5, b84_10, b84_13, b84_17, b84_18, qcall_l, qcall_r, qretn_l, qJ_s, qJ_n, qV0, qEx, ↓qif0, ↓zchk_pos, ↓reduceIte, qput, qWW, qmW, qkW, qnW, if_pos c]
  · obtain ⟨m', r, p, f⟩ := s_sqAppend e S a b v st dg bg mk L h1 hk hs
    refine ⟨m', ?_, fun _ => p, f⟩
    have k1 := hk.1
    by_cases c2 : L.length < 10
    · rw [if_pos (show v ≠ -1 ∧ L.length < 10 from ⟨c, c2⟩)]
      rw [if_pos c2] at r
      simp (config := { maxSteps := 2000000 }) (disch := first | omega | (simp only [k1, qb_in, qkW, qmW, qnW, true_and, and_true, or_self, true_or, or_true, and_self]; done) | (simp only [k1, qb_in, qkW, qmW, qnW, true_and, and_true, or_self, true_or, or_true, and_self]; omega)) only [zD_84, b84_0, b84_5, b84_10, b84_13, b84_17, b84_18, qcall_l, qcall_r, qretn_l, qJ_s, qJ_n, qV0, qEx, ↓qif0, ↓zchk_pos, ↓reduceIte, qput, qWW, qmW, qkW, qnW, if_neg c, k1, r, Int.reduceEq]
    · rw [if_neg (show ¬ (v ≠ -1 ∧ L.length < 10) from fun q => c2 q.2)]
      rw [if_neg c2] at r
      simp (config := { maxSteps := 2000000 }) (disch := first | omega | (simp only [k1, qb_in, qkW, qmW, qnW, true_and, and_true, or_self, true_or, or_true, and_self]; done) | (simp only [k1, qb_in, qkW, qmW, qnW, true_and, and_true, or_self, true_or, or_true, and_self]; omega)) only [zD_84, b84_0, b84_5, b84_10, b84_13, b84_17, b84_18, qcall_l, qcall_r, qretn_l, qJ_s, qJ_n, qV0, qEx, ↓qif0, ↓zchk_pos, ↓reduceIte, qput, qWW, qmW, qkW, qnW, if_neg c, k1, r, Int.reduceEq]
/-- letters of a contraction, from the first on -/
def qle (T : Int → Int → Int) (k : Int) : Nat → List Int
  | 0 => []
  | i + 1 => qle T k i ++ [T (5 + (i : Int)) k]
theorem qle_l (T : Int → Int → Int) (k : Int) : ∀ i : Nat, (qle T k i).length = i := by
  intro i
  induction i with
  | zero => rfl
  | succ i ih => rw [qle, List.length_append, ih]; rfl
def qlk (T : Int → Int → Int) (k : Int) : List Int := qle T k (T 0 k).toNat
theorem s_spellInto (d : Nat) (S : zS) (x k a b st dg bg mk : Int) (T : Int → Int → Int) (L : List Int) (h : 2 ≤ d) (hx : qCt S x T k) (hk : qSk S a b) (hs : qSq (zm S) a b L st dg bg mk) (hlen : L.length ≤ 10) :
    ∃ m', zD d 35 [vr x, vr a] S = some (.inl (some (vi (if L.length + (qlk T k).length ≤ 10 then 1 else 0))), qW S m') ∧ (L.length + (qlk T k).length ≤ 10 → qSq m' a b (L ++ qlk T k) st dg bg mk) ∧ qfs a b (zm S) m' := by
  obtain ⟨e, rfl, h1⟩ := qd h
  obtain ⟨k1, k2, x1, x2, x3, x4, x5, b1, b2, hl⟩ := hx
  have s1 := hk.1
  have hqk : (qlk T k).length = (T 0 k).toNat := qle_l _ _ _
  have lp : ∀ (f j : Nat) (m : Int → Int → Int), j + f = (T 0 k).toNat → qfs a b (zm S) m → qSq m a b (L ++ qle T k j) st dg bg mk → L.length + j ≤ 10 →
      ∃ m', zF_35 e 2 [vr x, vr a, vi (j : Int)] [] (qW S m) = some (.inl (some (vi (if L.length + (qlk T k).length ≤ 10 then 1 else 0))), qW S m') ∧ (L.length + (qlk T k).length ≤ 10 → qSq m' a b (L ++ qlk T k) st dg bg mk) ∧ qfs a b (zm S) m' := by
    intro f
    induction f with
    | zero =>
      intro j m h2 hf hs hj
      have e1 : m x = zm S x := hf.1 x (qkne k1 s1 (by decide)) (qkne k1 hk.2 (by decide))
      rw [b35_2]
      refine ⟨m, ?_, fun _ => by unfold qlk; rw [← h2]; exact hs, hf⟩
      rw [if_pos (show L.length + (qlk T k).length ≤ 10 by omega)]
      simp (config := { maxSteps := 2000000 }) (disch := first | omega | (simp only [k1, qb_in, qkW, qmW, qnW, true_and, and_true, or_self, true_or, or_true, and_self]; done) | (simp only [k1, qb_in, qkW, qmW, qnW, true_and, and_true, or_self, true_or, or_true, and_self]; omega)) only [b35_0, b35_10, b35_20, b35_23, b35_25, b35_31, qcall_l, qcall_r, qretn_l, qJ_s, qJ_n, qV0, qEx, ↓qif0, ↓zchk_pos, ↓reduceIte, qput, qWW, qmW, qkW, qnW, k1, e1, x1, if_neg (show ¬ (j : Int) < T 0 k by omega), Int.reduceLE, true_and, and_self]
    | succ f ih =>
      intro j m h2 hf hs hj
      have e1 : m x = zm S x := hf.1 x (qkne k1 s1 (by decide)) (qkne k1 hk.2 (by decide))
      have e2 : m (zm S x 0) = zm S (zm S x 0) := hf.1 _ (qkne k2 s1 (by decide)) (qkne k2 hk.2 (by decide))
      have g1 := hl j (by omega) (by omega)
      obtain ⟨m1, r1, p1, f1⟩ := s_sqAppend e (qW S m) a b (T (5 + (j : Int)) k) st dg bg mk _ h1 hk hs
      rw [b35_2]
      by_cases c : L.length + j < 10
      · rw [if_pos (show (L ++ qle T k j).length < 10 by rw [List.length_append, qle_l]; exact c)] at r1
        have p1 := p1 (by rw [List.length_append, qle_l]; exact c)
        simp (config := { maxSteps := 2000000 }) (disch := first | omega | (simp only [k1, k2, s1, e1, e2, qb_in, qkW, qmW, qnW, true_and, and_true, or_self, true_or, or_true, and_self]; done) | (simp only [k1, k2, s1, e1, e2, qb_in, qkW, qmW, qnW, true_and, and_true, or_self, true_or, or_true, and_self]; omega)) only [b35_0, b35_10, b35_20, b35_23, b35_25, b35_31, qcall_l, qcall_r, qretn_l, qJ_s, qJ_n, qV0, qEx, ↓qif0, ↓zchk_pos, ↓reduceIte, qput, qWW, qmW, qkW, qnW, k1, k2, s1, e1, e2, x1, g1, r1, if_pos (show (j : Int) < T 0 k by omega), Int.reduceEq, q32]
        rw [List.append_assoc] at p1
        exact ih (j + 1) m1 (by omega) (qfs_t hf f1) p1 (by omega)
      · rw [if_neg (show ¬ (L ++ qle T k j).length < 10 by rw [List.length_append, qle_l]; exact c)] at r1
        refine ⟨m1, ?_, fun q => by omega, qfs_t hf f1⟩
        rw [if_neg (show ¬ L.length + (qlk T k).length ≤ 10 by omega)]
        simp (config := { maxSteps := 2000000 }) (disch := first | omega | (simp only [k1, k2, s1, e1, e2, qb_in, qkW, qmW, qnW, true_and, and_true, or_self, true_or, or_true, and_self]; done) | (simp only [k1, k2, s1, e1, e2, qb_in, qkW, qmW, qnW, true_and, and_true, or_self, true_or, or_true, and_self]; omega)) only [b35_0, b35_10, b35_20, b35_23, b35_25, b35_31, qcall_l, qcall_r, qretn_l, qJ_s, qJ_n, qV0, qEx, ↓qif0, ↓zchk_pos, ↓reduceIte, qput, qWW, qmW, qkW, qnW, k1, k2, s1, e1, e2, x1, g1, r1, if_pos (show (j : Int) < T 0 k by omega), Int.reduceEq, Int.reduceLE, true_and, and_self]
  obtain ⟨m', r, p, f⟩ := lp (T 0 k).toNat 0 (zm S) (by omega) (qfs_r _ _ _) (by rw [qle, List.append_nil]; exact hs) (by omega)
  refine ⟨m', ?_, p, f⟩
  rw [qWS] at r
  simp (config := { maxSteps := 2000000 }) (disch := first | omega | (simp only [qb_in, qkW, qmW, qnW, true_and, and_true, or_self, true_or, or_true, and_self]; done) | (simp only [qb_in, qkW, qmW, qnW, true_and, and_true, or_self, true_or, or_true, and_self]; omega)) only [zD_35, b35_0, b35_10, b35_20, b35_23, b35_25, b35_31, qcall_l, qcall_r, qretn_l, qJ_s, qJ_n, qV0, qEx, ↓qif0, ↓zchk_pos, ↓reduceIte, qput, qWW, qmW, qkW, qnW]
  exact r
/-- cells read as letters -/
def qrd (T : Int → Int → Int) (r bR : Int → Int) (all : Int) : Nat → Int → List Int → Option (List Int)
  | 0, _, acc => some acc
  | f + 1, at_, acc => if all ≤ at_ then some acc else if bR at_ = -1 then (if qlo (r at_) = -1 then none else qrd T r bR all f (at_ + 1) (acc ++ [qlo (r at_)])) else qrd T r bR all f (at_ + qcn (T 4 (bR at_))) (acc ++ qlk T (bR at_))
theorem qrd_l (T : Int → Int → Int) (r bR : Int → Int) (all : Int) : ∀ (f : Nat) (at_ : Int) (acc L : List Int), qrd T r bR all f at_ acc = some L → acc.length ≤ L.length := by
  intro f
  induction f with
  | zero =>
    intro at_ acc L h
    simp only [qrd, Option.some.injEq] at h
    rw [h]
    exact Nat.le_refl _
  | succ f ih =>
    intro at_ acc L h
    simp only [qrd] at h
    split at h
    · simp only [Option.some.injEq] at h
      rw [h]
      exact Nat.le_refl _
    · split at h
      · split at h
        · exact absurd h (by simp)
        · have := ih _ _ _ h
          rw [List.length_append] at this
          omega
      · have := ih _ _ _ h
        rw [List.length_append] at this
        omega
noncomputable def qbr (T : Int → Int → Int) (N g : Int) (r : Int → Int) (all at_ : Int) : Int := qbs (fun k => qc (qCR T k g r all at_)) (fun k => qcn (T 4 k)) N.toNat 0 (-1) 0
theorem qbr_s {T : Int → Int → Int} {N g : Int} {r : Int → Int} {all at_ : Int} (h0 : 0 ≤ N) : qbr T N g r all at_ = -1 ∨ (0 ≤ qbr T N g r all at_ ∧ qbr T N g r all at_ < N ∧ qCR T (qbr T N g r all at_) g r all at_) := by
  rcases qbs_s (fun k => qc (qCR T k g r all at_)) (fun k => qcn (T 4 k)) N.toNat 0 (-1) 0 with h | ⟨h1, h2, h3, h4⟩
  · exact Or.inl h
  · exact Or.inr ⟨h1, by unfold qbr; omega, qc_1 h3⟩
theorem s_readLetters (d : Nat) (S : zS) (a N g w b c bg en sa sb mk con st dg bgs mk2 : Int) (T : Int → Int → Int) (L E : List Int) (r : Int → Int) (h : 6 ≤ d) (hK : qK S) (hL : qLt (zm S)) (ha : qCo S a N T) (hT : qTok T N)
    (hk : qWk S w b c) (hp : qWp (zm S) w b c L mk con E) (hb : 0 ≤ bg ∧ bg ≤ en ∧ en ≤ L.length ∧ L.length ≤ 16) (hr : ∀ j, 0 ≤ j → bg + j < en → qnth L (bg + j) = r j) (hks : qSk S sa sb) (hs : zm S sa 0 = sb ∧ zm S sa 2 = st ∧ zm S sa 3 = dg ∧ zm S sa 4 = bgs ∧ zm S sa 5 = mk2) :
    ∃ m' v, zD d 26 [vr a, vr w, vi bg, vi en, vi g, vr sa] S = some (.inl (some (vi v)), qW S m') ∧ qfs sa sb (zm S) m' ∧ ((v = 1 ∧ bg < en ∧ ∃ K, qrd T r (qbr T N g r (en - bg)) (en - bg) (en - bg).toNat 0 [] = some K ∧ K.length ≤ 10 ∧ qSq m' sa sb K st dg bgs mk2) ∨ (v = 0 ∧ (bg < en → ∀ K, qrd T r (qbr T N g r (en - bg)) (en - bg) (en - bg).toNat 0 [] = some K → 10 < K.length))) := by
  obtain ⟨e, rfl, h1⟩ := qd h
  obtain ⟨k1, k2, k3, n1, n2, n3⟩ := hk
  have hk : qWk S w b c := ⟨k1, k2, k3, n1, n2, n3⟩
  obtain ⟨s1, s2⟩ := hks
  have hks : qSk S sa sb := ⟨s1, s2⟩
  have a1 := ha.1
  have a2 := ha.2.1
  have hN := ha.2.2.2.1
  have lp : ∀ (f : Nat) (at_ : Int) (m : Int → Int → Int) (acc : List Int) (y7 y8 : zV), 0 ≤ at_ → at_ ≤ en - bg → en - bg ≤ at_ + f → qfs sa sb (zm S) m → qSq m sa sb acc st dg bgs mk2 → acc.length ≤ 10 →
      ∃ m' v, zF_26 e 9 [vr a, vr w, vi bg, vi en, vi g, vr sa, vi (bg + at_), y7, y8] [] (qW S m) = some (.inl (some (vi v)), qW S m') ∧ qfs sa sb (zm S) m' ∧ ((v = 1 ∧ bg < en ∧ ∃ K, qrd T r (qbr T N g r (en - bg)) (en - bg) f at_ acc = some K ∧ K.length ≤ 10 ∧ qSq m' sa sb K st dg bgs mk2) ∨ (v = 0 ∧ (bg < en → ∀ K, qrd T r (qbr T N g r (en - bg)) (en - bg) f at_ acc = some K → 10 < K.length))) := by
    intro f
    induction f with
    | zero =>
      intro at_ m acc y7 y8 h2 h3 h4 hf hs hc
      simp only [qrd]
      rw [b26_9]
      by_cases c1 : bg < en
      · refine ⟨m, 1, ?_, hf, Or.inl ⟨rfl, c1, acc, rfl, hc, hs⟩⟩
        simp (config := { maxSteps := 2000000 }) (disch := first | omega | (simp only [qb_in, qkW, qmW, qnW, true_and, and_true, or_self, true_or, or_true, and_self]; done) | (simp only [qb_in, qkW, qmW, qnW, true_and, and_true, or_self, true_or, or_true, and_self]; omega)) only [b26_0, b26_15, b26_29, b26_37, b26_45, b26_48, b26_51, b26_54, b26_66, b26_73, b26_75, b26_83, b26_87, b26_98, b26_101, b26_107, b26_112, b26_116, b26_117, qcall_l, qcall_r, qretn_l, qJ_s, qJ_n, qV0, qEx, ↓qif0, ↓zchk_pos, ↓reduceIte, qput, qWW, qmW, qkW, qnW, if_neg (show ¬ bg + at_ < en by omega), if_pos c1, Int.reduceLE, true_and, and_self]
      · refine ⟨m, 0, ?_, hf, Or.inr ⟨rfl, fun q => absurd q c1⟩⟩
        simp (config := { maxSteps := 2000000 }) (disch := first | omega | (simp only [qb_in, qkW, qmW, qnW, true_and, and_true, or_self, true_or, or_true, and_self]; done) | (simp only [qb_in, qkW, qmW, qnW, true_and, and_true, or_self, true_or, or_true, and_self]; omega)) only [b26_0, b26_15, b26_29, b26_37, b26_45, b26_48, b26_51, b26_54, b26_66, b26_73, b26_75, b26_83, b26_87, b26_98, b26_101, b26_107, b26_112, b26_116, b26_117, qcall_l, qcall_r, qretn_l, qJ_s, qJ_n, qV0, qEx, ↓qif0, ↓zchk_pos, ↓reduceIte, qput, qWW, qmW, qkW, qnW, if_neg (show ¬ bg + at_ < en by omega), if_neg c1, Int.reduceLE, true_and, and_self]
    | succ f ih =>
      intro at_ m acc y7 y8 h2 h3 h4 hf hs hc
      by_cases c0 : en - bg ≤ at_
      · simp only [qrd, if_pos c0]
        rw [b26_9]
        by_cases c1 : bg < en
        · refine ⟨m, 1, ?_, hf, Or.inl ⟨rfl, c1, acc, rfl, hc, hs⟩⟩
          simp (config := { maxSteps := 2000000 }) (disch := first | omega | (simp only [qb_in, qkW, qmW, qnW, true_and, and_true, or_self, true_or, or_true, and_self]; done) | (simp only [qb_in, qkW, qmW, qnW, true_and, and_true, or_self, true_or, or_true, and_self]; omega)) only [b26_0, b26_15, b26_29, b26_37, b26_45, b26_48, b26_51, b26_54, b26_66, b26_73, b26_75, b26_83, b26_87, b26_98, b26_101, b26_107, b26_112, b26_116, b26_117, qcall_l, qcall_r, qretn_l, qJ_s, qJ_n, qV0, qEx, ↓qif0, ↓zchk_pos, ↓reduceIte, qput, qWW, qmW, qkW, qnW, if_neg (show ¬ bg + at_ < en by omega), if_pos c1, Int.reduceLE, true_and, and_self]
        · refine ⟨m, 0, ?_, hf, Or.inr ⟨rfl, fun q => absurd q c1⟩⟩
          simp (config := { maxSteps := 2000000 }) (disch := first | omega | (simp only [qb_in, qkW, qmW, qnW, true_and, and_true, or_self, true_or, or_true, and_self]; done) | (simp only [qb_in, qkW, qmW, qnW, true_and, and_true, or_self, true_or, or_true, and_self]; omega)) only [b26_0, b26_15, b26_29, b26_37, b26_45, b26_48, b26_51, b26_54, b26_66, b26_73, b26_75, b26_83, b26_87, b26_98, b26_101, b26_107, b26_112, b26_116, b26_117, qcall_l, qcall_r, qretn_l, qJ_s, qJ_n, qV0, qEx, ↓qif0, ↓zchk_pos, ↓reduceIte, qput, qWW, qmW, qkW, qnW, if_neg (show ¬ bg + at_ < en by omega), if_neg c1, Int.reduceLE, true_and, and_self]
      · have e1 : m w = zm S w := hf.1 w (qkne k1 s1 (by decide)) (qkne k1 s2 (by decide))
        have e2 : m b = zm S b := hf.1 b (qkne k2 s1 (by decide)) (qkne k2 s2 (by decide))
        have e3 : m c = zm S c := hf.1 c (qkne k3 s1 (by decide)) (qkne k3 s2 (by decide))
        have e4 : m 2 = zm S 2 := hf.1 2 (qkne (K_2 hK) s1 (by decide)) (qkne (K_2 hK) s2 (by decide))
        have hp' : qWp m w b c L mk con E := qWp_o hp e1 e2 e3
        have ha' : qCo (qW S m) a N T := qCo_k ha fun x hx => hf.1 x (fun q => by rw [q, s1] at hx; revert hx; decide) (fun q => by rw [q, s2] at hx; revert hx; decide)
        have p0 := hp'.1
        have hrr : ∀ j, 0 ≤ j → bg + j < en → zm (qW S m) b (bg + j) = r j := fun j j1 j2 => by
          rw [← hr j j1 j2]
          exact qA_n hp'.2.2.2.2.2.2.1 (bg + j) (by omega) (by omega)
        have li := s_longestIn e (qW S m) a N g b bg en (bg + at_) T r (by omega) ha' k2 (by omega) hrr
        rw [show bg + at_ - bg = at_ by omega] at li
        have li2 : zD e 25 [vr a, vr b, vi bg, vi en, vi (bg + at_), vi g] (qW S m) = some (.inl (some (vi (qbr T N g r (en - bg) at_))), qW S m) := li
        have hbs := qbr_s (T := T) (N := N) (g := g) (r := r) (all := en - bg) (at_ := at_) hN.1
        simp only [qrd, if_neg c0]
        generalize hbe : qbr T N g r (en - bg) at_ = be at hbs li2 ⊢
        rw [b26_9]
        by_cases q1 : be = -1
        · simp only [if_pos q1]
          have wc := s_wrCell e (qW S m) w b c mk con (bg + at_) L E (by omega) hk hp' (by omega)
          rw [if_pos (by omega), hr at_ h2 (by omega)] at wc
          have lo := s_letterOf e (qW S m) (r at_) (by omega) hK (fun q hq => by rw [qmW, e4]; exact hL q hq)
          obtain ⟨m1, r1, p1, f1⟩ := s_sqLetter e (qW S m) sa sb (qlo (r at_)) st dg bgs mk2 acc (by omega) hks hs
          by_cases q2 : qlo (r at_) = -1
          · rw [if_neg (fun z : qlo (r at_) ≠ -1 ∧ _ => z.1 q2)] at r1
            refine ⟨m1, 0, ?_, qfs_t hf f1, Or.inr ⟨rfl, fun _ K hK => by rw [if_pos q2] at hK; exact absurd hK (by simp)⟩⟩
            simp (config := { maxSteps := 2000000 }) (disch := first | omega | (simp only [k1, a1, s1, qb_in, qkW, qmW, qnW, true_and, and_true, or_self, true_or, or_true, and_self]; done) | (simp only [k1, a1, s1, qb_in, qkW, qmW, qnW, true_and, and_true, or_self, true_or, or_true, and_self]; omega)) only [b26_0, b26_15, b26_29, b26_37, b26_45, b26_48, b26_51, b26_54, b26_66, b26_73, b26_75, b26_83, b26_87, b26_98, b26_101, b26_107, b26_112, b26_116, b26_117, qcall_l, qcall_r, qretn_l, qJ_s, qJ_n, qV0, qEx, ↓qif0, ↓zchk_pos, ↓reduceIte, qput, qWW, qmW, qkW, qnW, k1, a1, s1, p0, if_pos (show bg + at_ < en by omega), li2, if_pos q1, wc, lo, r1, Int.reduceEq, Int.reduceLE, true_and, and_self]
          · rw [if_neg q2]
            by_cases q3 : acc.length < 10
            · rw [if_pos (show qlo (r at_) ≠ -1 ∧ acc.length < 10 from ⟨q2, q3⟩)] at r1
              have p1 := p1 q2 q3
              simp (config := { maxSteps := 2000000 }) (disch := first | omega | (simp only [k1, a1, s1, qb_in, qkW, qmW, qnW, true_and, and_true, or_self, true_or, or_true, and_self]; done) | (simp only [k1, a1, s1, qb_in, qkW, qmW, qnW, true_and, and_true, or_self, true_or, or_true, and_self]; omega)) only [b26_0, b26_15, b26_29, b26_37, b26_45, b26_48, b26_51, b26_54, b26_66, b26_73, b26_75, b26_83, b26_87, b26_98, b26_101, b26_107, b26_112, b26_116, b26_117, qcall_l, qcall_r, qretn_l, qJ_s, qJ_n, qV0, qEx, ↓qif0, ↓zchk_pos, ↓reduceIte, qput, qWW, qmW, qkW, qnW, k1, a1, s1, p0, if_pos (show bg + at_ < en by omega), li2, if_pos q1, wc, lo, r1, Int.reduceEq, q32]
              have := ih (at_ + 1) m1 _ vu vu (by omega) (by omega) (by omega) (qfs_t hf f1) p1 (by rw [List.length_append]; show acc.length + 1 ≤ 10; omega)
              rw [← Int.add_assoc] at this
              exact this
            · rw [if_neg (fun z : qlo (r at_) ≠ -1 ∧ _ => q3 z.2)] at r1
              refine ⟨m1, 0, ?_, qfs_t hf f1, Or.inr ⟨rfl, fun _ K hK => ?_⟩⟩
              · simp (config := { maxSteps := 2000000 }) (disch := first | omega | (simp only [k1, a1, s1, qb_in, qkW, qmW, qnW, true_and, and_true, or_self, true_or, or_true, and_self]; done) | (simp only [k1, a1, s1, qb_in, qkW, qmW, qnW, true_and, and_true, or_self, true_or, or_true, and_self]; omega)) only [b26_0, b26_15, b26_29, b26_37, b26_45, b26_48, b26_51, b26_54, b26_66, b26_73, b26_75, b26_83, b26_87, b26_98, b26_101, b26_107, b26_112, b26_116, b26_117, qcall_l, qcall_r, qretn_l, qJ_s, qJ_n, qV0, qEx, ↓qif0, ↓zchk_pos, ↓reduceIte, qput, qWW, qmW, qkW, qnW, k1, a1, s1, p0, if_pos (show bg + at_ < en by omega), li2, if_pos q1, wc, lo, r1, Int.reduceEq, Int.reduceLE, true_and, and_self]
              · have := qrd_l _ _ _ _ _ _ _ _ hK
                rw [List.length_append] at this
                have e1 : [qlo (r at_)].length = 1 := rfl
                omega
        · simp only [if_neg q1]
          have hbr : 0 ≤ be ∧ be < N := by
            rcases hbs with q | q
            · exact absurd q q1
            · exact ⟨q.1, q.2.1⟩
          have hfit := (hbs.resolve_left q1).2.2.2.1
          have ht := hT be hbr.1 hbr.2
          have hcn := qcn_r (T 4 be)
          have hct := ha'.2.2.2.2 be hbr.1 hbr.2
          obtain ⟨m1, r1, p1, f1⟩ := s_spellInto e (qW S m) _ be sa sb st dg bgs mk2 T acc (by omega) hct hks hs hc
          have y1 : zk S (m (m a 0) be) = (23, 0) := hct.1
          have y2 : m (m (m a 0) be) 5 = T 4 be := hct.2.2.2.2.2.2.1
          have y3 : zk S (m a 0) = (12, 24) := ha'.2.1
          simp only [qmW] at r1
          by_cases q3 : acc.length + (qlk T be).length ≤ 10
          · rw [if_pos q3] at r1
            have p1 := p1 q3
            have g1 : m1 a = m a := f1.1 a (qkne a1 s1 (by decide)) (qkne a1 s2 (by decide))
            have g2 : m1 (m a 0) = m (m a 0) := f1.1 _ (qkne y3 s1 (by decide)) (qkne y3 s2 (by decide))
            have g3 : m1 (m (m a 0) be) = m (m (m a 0) be) := f1.1 _ (qkne y1 s1 (by decide)) (qkne y1 s2 (by decide))
            have cc := s_countCells e (qW S m1) (m (m a 0) be) (by omega) y1
            rw [qmW, g3, y2] at cc
            have e5 : (if (1 : Int) < qcn (T 4 be) then qcn (T 4 be) else 1) = qcn (T 4 be) := by
              split <;> omega
            simp (config := { maxSteps := 2000000 }) (disch := first | omega | (simp only [k1, a1, s1, y1, y3, g1, g2, qb_in, qkW, qmW, qnW, true_and, and_true, or_self, true_or, or_true, and_self]; done) | (simp only [k1, a1, s1, y1, y3, g1, g2, qb_in, qkW, qmW, qnW, true_and, and_true, or_self, true_or, or_true, and_self]; omega)) only [b26_0, b26_15, b26_29, b26_37, b26_45, b26_48, b26_51, b26_54, b26_66, b26_73, b26_75, b26_83, b26_87, b26_98, b26_101, b26_107, b26_112, b26_116, b26_117, qcall_l, qcall_r, qretn_l, qJ_s, qJ_n, qV0, qEx, ↓qif0, ↓zchk_pos, ↓reduceIte, qput, qWW, qmW, qkW, qnW, k1, a1, s1, p0, y1, y3, g1, g2, if_pos (show bg + at_ < en by omega), li2, if_neg q1, r1, cc, e5, Int.reduceEq, q32]
            have := ih (at_ + qcn (T 4 be)) m1 _ vu vu (by omega) (by omega) (by omega) (qfs_t hf f1) p1 (by rw [List.length_append]; omega)
            rw [← Int.add_assoc] at this
            exact this
          · rw [if_neg q3] at r1
            refine ⟨m1, 0, ?_, qfs_t hf f1, Or.inr ⟨rfl, fun _ K hK => ?_⟩⟩
            · simp (config := { maxSteps := 2000000 }) (disch := first | omega | (simp only [k1, a1, s1, y1, y3, qb_in, qkW, qmW, qnW, true_and, and_true, or_self, true_or, or_true, and_self]; done) | (simp only [k1, a1, s1, y1, y3, qb_in, qkW, qmW, qnW, true_and, and_true, or_self, true_or, or_true, and_self]; omega)) only [b26_0, b26_15, b26_29, b26_37, b26_45, b26_48, b26_51, b26_54, b26_66, b26_73, b26_75, b26_83, b26_87, b26_98, b26_101, b26_107, b26_112, b26_116, b26_117, qcall_l, qcall_r, qretn_l, qJ_s, qJ_n, qV0, qEx, ↓qif0, ↓zchk_pos, ↓reduceIte, qput, qWW, qmW, qkW, qnW, k1, a1, s1, p0, y1, y3, if_pos (show bg + at_ < en by omega), li2, if_neg q1, r1, Int.reduceEq, Int.reduceLE, true_and, and_self]
            · have := qrd_l _ _ _ _ _ _ _ _ hK
              rw [List.length_append] at this
              omega
  have hs0 : qSq (qu (zm S) sa 1 0) sa sb [] st dg bgs mk2 := by
    obtain ⟨p0, p2, p3, p4, p5⟩ := hs
    refine ⟨?_, qu_s _ _ _ _, ?_, ?_, ?_, ?_, qA_nil _ _⟩
    all_goals rw [qu_i _ _ _ _ _ (by decide)]
    all_goals assumption
  obtain ⟨m', v, r1, f1, p1⟩ := lp (en - bg).toNat 0 (qu (zm S) sa 1 0) [] vu vu (by omega) (by omega) (by omega) ⟨fun x h1 h2 => qu_o _ _ _ _ _ h1, qu_i _ _ _ _ _ (by decide)⟩ hs0 (by decide)
  rw [show bg + 0 = bg by omega] at r1
  refine ⟨m', v, ?_, f1, p1⟩
  simp (config := { maxSteps := 2000000 }) (disch := first | omega | (simp only [s1, qb_in, qkW, qmW, qnW, true_and, and_true, or_self, true_or, or_true, and_self]; done) | (simp only [s1, qb_in, qkW, qmW, qnW, true_and, and_true, or_self, true_or, or_true, and_self]; omega)) only [zD_26, b26_0, b26_15, b26_29, b26_37, b26_45, b26_48, b26_51, b26_54, b26_66, b26_73, b26_75, b26_83, b26_87, b26_98, b26_101, b26_107, b26_112, b26_116, b26_117, qcall_l, qcall_r, qretn_l, qJ_s, qJ_n, qV0, qEx, ↓qif0, ↓zchk_pos, ↓reduceIte, qput, qWW, qmW, qkW, qnW, s1, r1]
theorem s_areSame (d : Nat) (S : zS) (x y n1 n2 z1 z2 : Int) (h : 1 ≤ d) (kx : zk S x = (0, z1)) (ky : zk S y = (0, z2)) (hz : n1 ≤ z1 ∧ n1 ≤ z2 ∧ n1 ≤ 1000) :
    ∃ v, zD d 179 [vr x, vi n1, vr y, vi n2] S = some (.inl (some (vi v)), S) ∧ (v = 0 ∨ v = 1) ∧ (v = 1 ↔ n1 = n2 ∧ ∀ i, 0 ≤ i → i < n1 → zm S x i = zm S y i) := by
  obtain ⟨e, rfl, -⟩ := qd h
  by_cases c : n1 = n2
  · have lp : ∀ (f : Nat) (i : Int) (y3 : zV), 0 ≤ i → n1 ≤ i + f → ∃ v, zF_179 e 22 [vr x, vi n1, vr y, y3, vi i] [] S = some (.inl (some (vi v)), S) ∧ (v = 0 ∨ v = 1) ∧ (v = 1 ↔ ∀ j, i ≤ j → j < n1 → zm S x j = zm S y j) := by
      intro f
      induction f with
      | zero =>
        intro i y3 h1 h2
        rw [b179_22]
        refine ⟨1, ?_, Or.inr rfl, ⟨fun _ j j1 j2 => by omega, fun _ => rfl⟩⟩
        simp (config := { maxSteps := 2000000 }) (disch := first | omega | (simp only [qb_in, qkW, qmW, qnW, true_and, and_true, or_self, true_or, or_true, and_self]; done) | (simp only [qb_in, qkW, qmW, qnW, true_and, and_true, or_self, true_or, or_true, and_self]; omega)) only [b179_0, b179_5, b179_11, b179_17, b179_19, b179_28, b179_39, b179_41, b179_47, qcall_l, qcall_r, qretn_l, qJ_s, qJ_n, qV0, qEx, ↓qif0, ↓zchk_pos, ↓reduceIte, qput, qWW, qmW, qkW, qnW, if_neg (show ¬ i < n1 by omega), Int.reduceLE, true_and, and_self]
      | succ f ih =>
        intro i y3 h1 h2
        rw [b179_22]
        by_cases c0 : i < n1
        · by_cases c1 : zm S x i = zm S y i
          · obtain ⟨v, r, hv, g⟩ := ih (i + 1) vu (by omega) (by omega)
            refine ⟨v, ?_, hv, g.trans ⟨fun z j j1 j2 => ?_, fun z j j1 j2 => z j (by omega) j2⟩⟩
            · simp (config := { maxSteps := 2000000 }) (disch := first | omega | (simp only [kx, ky, qb_in, qkW, qmW, qnW, true_and, and_true, or_self, true_or, or_true, and_self]; done) | (simp only [kx, ky, qb_in, qkW, qmW, qnW, true_and, and_true, or_self, true_or, or_true, and_self]; omega)) only [b179_0, b179_5, b179_11, b179_17, b179_19, b179_28, b179_39, b179_41, b179_47, qcall_l, qcall_r, qretn_l, qJ_s, qJ_n, qV0, qEx, ↓qif0, ↓zchk_pos, ↓reduceIte, qput, qWW, qmW, qkW, qnW, kx, ky, if_pos c0, if_pos c1, r, q32]
            · by_cases q : j = i
              · rw [q]; exact c1
              · exact z j (by omega) j2
          · refine ⟨0, ?_, Or.inl rfl, ⟨fun z => absurd z (by decide), fun z => absurd (z i (by omega) c0) c1⟩⟩
            simp (config := { maxSteps := 2000000 }) (disch := first | omega | (simp only [kx, ky, qb_in, qkW, qmW, qnW, true_and, and_true, or_self, true_or, or_true, and_self]; done) | (simp only [kx, ky, qb_in, qkW, qmW, qnW, true_and, and_true, or_self, true_or, or_true, and_self]; omega)) only [b179_0, b179_5, b179_11, b179_17, b179_19, b179_28, b179_39, b179_41, b179_47, qcall_l, qcall_r, qretn_l, qJ_s, qJ_n, qV0, qEx, ↓qif0, ↓zchk_pos, ↓reduceIte, qput, qWW, qmW, qkW, qnW, kx, ky, if_pos c0, if_neg c1, Int.reduceLE, true_and, and_self]
        · refine ⟨1, ?_, Or.inr rfl, ⟨fun _ j j1 j2 => by omega, fun _ => rfl⟩⟩
          simp (config := { maxSteps := 2000000 }) (disch := first | omega | (simp only [qb_in, qkW, qmW, qnW, true_and, and_true, or_self, true_or, or_true, and_self]; done) | (simp only [qb_in, qkW, qmW, qnW, true_and, and_true, or_self, true_or, or_true, and_self]; omega)) only [b179_0, b179_5, b179_11, b179_17, b179_19, b179_28, b179_39, b179_41, b179_47, qcall_l, qcall_r, qretn_l, qJ_s, qJ_n, qV0, qEx, ↓qif0, ↓zchk_pos, ↓reduceIte, qput, qWW, qmW, qkW, qnW, if_neg c0, Int.reduceLE, true_and, and_self]
    obtain ⟨v, r, hv, g⟩ := lp n1.toNat 0 vu (by omega) (by omega)
    refine ⟨v, ?_, hv, g.trans ⟨fun z => ⟨c, z⟩, fun z => z.2⟩⟩
    simp (config := { maxSteps := 2000000 }) (disch := first | omega | (simp only [kx, ky, qb_in, qkW, qmW, qnW, true_and, and_true, or_self, true_or, or_true, and_self]; done) | (simp only [kx, ky, qb_in, qkW, qmW, qnW, true_and, and_true, or_self, true_or, or_true, and_self]; omega)) only [zD_179, b179_0, b179_5, b179_11, b179_17, b179_19, b179_28, b179_39, b179_41, b179_47, qcall_l, qcall_r, qretn_l, qJ_s, qJ_n, qV0, qEx, ↓qif0, ↓zchk_pos, ↓reduceIte, qput, qWW, qmW, qkW, qnW, kx, ky, if_pos c, if_neg (show ¬ z1 < n1 by omega), if_neg (show ¬ z2 < n1 by omega), r]
  · refine ⟨0, ?_, Or.inl rfl, ⟨fun z => absurd z (by decide), fun z => absurd z.1 c⟩⟩
    simp (config := { maxSteps := 2000000 }) (disch := first | omega | (simp only [qb_in, qkW, qmW, qnW, true_and, and_true, or_self, true_or, or_true, and_self]; done) | (simp only [qb_in, qkW, qmW, qnW, true_and, and_true, or_self, true_or, or_true, and_self]; omega)) only [zD_179, b179_0, b179_5, b179_11, b179_17, b179_19, b179_28, b179_39, b179_41, b179_47, qcall_l, qcall_r, qretn_l, qJ_s, qJ_n, qV0, qEx, ↓qif0, ↓zchk_pos, ↓reduceIte, qput, qWW, qmW, qkW, qnW, if_neg c, Int.reduceLE, true_and, and_self]
