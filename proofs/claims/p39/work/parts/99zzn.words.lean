/-! The words of a text, one behind the other. -/
theorem q_word2 (t : Int → Int) (n i : Int) (hn : 0 ≤ n ∧ n ≤ 60) (h0 : 0 ≤ i) (hi : i ≤ n) (hr : ∀ i, 0 ≤ i → i < n → 0 ≤ t i ∧ t i < 65536) (h : qfa t (n - i).toNat i 0 0 = -1) :
    ∃ (W : List Int) (dg st bg mk E : Int), qWk2 W dg st bg mk ∧ (i < E ∧ E ≤ n) ∧ (∀ j, i ≤ j → j < E → ¬ qpt (t j)) ∧ (E < n → qpt (t E) ∧ qfa t (n - (E + 1)).toNat (E + 1) 0 0 = -1) ∧
      (∀ (d : Nat) (S : zS) (a b : Int), 4 ≤ d → qK S → zm S 4 0 = 5 → zm S 4 1 = n → (∀ i, i < n → zm S 5 i = t i) → qSk S a b → zm S a 0 = b → ∃ m', zD d 97 [vr 4, vi i, vr a] S = some (.inl (some (vi E)), qW S m') ∧ qSq m' a b W st dg bg (qmc mk) ∧ qfs a b (zm S) m') ∧
      (∀ (d : Nat) (S : zS), 5 ≤ d → qK S → qP (zm S) → zm S 37 2 = n → zm S 38 = t → 0 ≤ zm S 37 12 ∧ zm S 37 12 ≤ 12 → ∃ m', zD d 206 [vr 37, vi i] S = some (.inl (some (vi E)), qW S m') ∧ qRx m' W (qPw (zm S) W dg) dg st bg mk ∧ qfr [64] [32, 33, 34, 36, 37, 38] (zm S) m') := by
  obtain ⟨s1, s2, s3⟩ := qtx_step t n i h0 hi h
  obtain ⟨k, e, c, hw⟩ := qWd_ex (qsg t n) i h0 s1
  obtain ⟨g1, g2, g3, g4⟩ := qWd_n _ _ _ _ _ _ hn.1 hw
  have hw0 := hw
  obtain ⟨hk, hke, hE, hc⟩ := hw
  have hb := qb_r (qsg t n i = 42)
  have hb2 := qb_r (qmk (qsg t n e))
  have hl10 : e - k ≤ 10 := by omega
  have hks : 0 ≤ k := by omega
  have hW : ∀ x, 0 ≤ x → x < ((qlf (qsn t k c) (e - k).toNat).length : Int) → qnth (qlf (qsn t k c) (e - k).toNat) x = qsn t k c x := fun x x1 x2 => qlf_n _ _ x x1 (by rw [qlf_l] at x2; exact x2)
  have hWl : ((qlf (qsn t k c) (e - k).toNat).length : Int) = e - k := by rw [qlf_l]; omega
  have hqs : ∀ x, 0 ≤ x → x < e - k → qsg t n (k + x) = t (k + x) := fun x x1 x2 => qsg_lt (by omega)
  refine ⟨qlf (qsn t k c) (e - k).toNat, qb (c = 3), qb (qsg t n i = 42), if c = 3 then 0 else c, qmv (qsg t n e), qeo (qsg t n) i, ⟨?_, ?_, ?_, ?_, ?_, ?_⟩, ⟨by omega, g3⟩, fun j j1 j2 => ?_, s3, ?_, ?_⟩
  · omega
  · omega
  · by_cases c3 : c = 3
    · refine Or.inr ⟨qb_p c3, if_pos c3, by omega, fun x x1 x2 => ?_⟩
      have hd : qdg (t (k + x)) := by
        rcases hc with ⟨-, -, q⟩ | ⟨-, ⟨q, -⟩ | ⟨q, -⟩ | ⟨q, -⟩⟩
        · have := q (k + x) (by omega) (by omega)
          rw [hqs x x1 (by omega)] at this
          exact this
        · omega
        · omega
        · omega
      rw [hW x x1 x2]
      unfold qsn qsl
      rw [if_pos c3, if_neg (by omega)]
      omega
    · refine Or.inl ⟨qb_n c3, fun x x1 x2 => ?_⟩
      have hd : qsm (t (k + x)) ∨ qbg (t (k + x)) := by
        rcases hc with ⟨q, -⟩ | ⟨-, ⟨-, q⟩ | ⟨-, q1, q⟩ | ⟨-, -, q⟩⟩
        · exact absurd q c3
        · have := q (k + x) (by omega) (by omega)
          rw [hqs x x1 (by omega)] at this
          exact Or.inl this
        · by_cases y : x = 0
          · rw [← hqs x x1 (by omega), y, show k + 0 = k by omega]
            exact Or.inr q1
          · have := q (k + x) (by omega) (by omega)
            rw [hqs x x1 (by omega)] at this
            exact Or.inl this
        · have := q (k + x) (by omega) (by omega)
          rw [hqs x x1 (by omega)] at this
          exact Or.inr this
      rw [hW x x1 x2]
      unfold qsn qsl
      rw [if_neg c3]
      rcases hd with hd | hd
      · rw [if_neg (by omega)]
        omega
      · rw [if_pos hd]
        omega
  · split
    · omega
    · omega
  · unfold qmv
    split
    · rename_i q; exact Or.inr q
    · exact Or.inl rfl
  · intro q
    by_cases c3 : c = 3
    · rw [if_pos c3] at q
      omega
    · rw [if_neg c3] at q
      omega
  · have jn : j < n := by omega
    have tj : qsg t n j = t j := qsg_lt jn
    by_cases c1 : j < k
    · have e1 : j = i := by omega
      have s42 : qsg t n i = 42 := by
        by_cases q : qsg t n i = 42
        · exact q
        · rw [qb_n q] at hk
          omega
      rw [← tj, e1, s42]
      decide
    · by_cases c2 : j < e
      · rcases g4 with ⟨-, -, q⟩ | ⟨-, ⟨-, q⟩ | ⟨-, q1, q⟩ | ⟨-, -, q⟩⟩
        · have := q j (by omega) c2
          omega
        · have := q j (by omega) c2
          omega
        · by_cases y : j = k
          · rw [y]
            omega
          · have := q j (by omega) c2
            omega
        · have := q j (by omega) c2
          omega
      · have je : j = e := by omega
        have hm : qmk (qsg t n e) := by
          by_cases q : qmk (qsg t n e)
          · exact q
          · rw [qb_n q] at hE
            omega
        rw [← je, tj] at hm
        omega
  · intro d S a b hd hK p0 p1 p5 hkk hp
    have eg := qsg_e p5
    have sp := s_spell d S hd hK n a b i k e c p0 p1 hn hkk.1 hkk.2 hp h0 (by rw [eg]; exact hw0) (by rw [eg]; intro q; rw [p5 _ q]; exact (s3 q).1)
    rw [eg] at sp
    have hu : ∀ x, 0 ≤ x → x < e - k → qsn (zm S 5) k c x = qsn t k c x := fun x x1 x2 => by unfold qsn; rw [p5 (k + x) (by omega)]
    refine ⟨_, sp, ⟨?_, ?_, ?_, ?_, ?_, ?_, ?_⟩, fun x x1 x2 => qSp_o _ _ _ _ _ _ _ _ _ _ x1 x2, qSp_0 _ _ _ _ _ _ _ _ _⟩
    · rw [qSp_0, hp]
    · rw [qSp_1, hWl]
    · rw [qSp_2]
    · rw [qSp_3]
    · rw [qSp_4]
    · rw [qSp_5, qmc_v]
    · exact qA_f fun x x1 x2 => by rw [qSp_g _ _ _ _ _ _ _ _ _ _ (Ne.symm (qkne hkk.1 hkk.2 (by decide))) ⟨x1, by omega⟩, hW x x1 x2, hu x x1 (by omega)]
  · intro d S hd hK hP p2 p38 hnd
    subst p38 p2
    have hT : qTr (zm S) := ⟨hn.1, hn.2, hr⟩
    have tw := r_takesWord d S hd hK hP hT hnd i k e c h0 (by omega) hw0
    have ep : qpts (zm S) (qb (c = 3)) (e - k) (qov (zm S) 64 (fun x => qsl (qms (zm S) (k + x))) (e - k) 64) = qPw (zm S) (qlf (qsn (zm S 38) k c) (e - k).toNat) (qb (c = 3)) := by
      unfold qpts qPw
      rw [hWl]
      refine qfp_c _ _ _ (by omega) _ _ _ _ _ (fun q j j1 j2 => ?_) _ _ _
      rw [qov_i _ _ _ _ _ ⟨j1, j2⟩, hW j j1 (by omega)]
      have c3 : ¬ c = 3 := by rw [qb_0] at q; exact q
      unfold qsn
      rw [if_neg c3]
      show qsl (qsg (zm S 38) (zm S 37 2) (k + j)) = _
      rw [hqs j j1 j2]
      omega
    rw [ep] at tw
    refine ⟨_, tw, ⟨?_, ?_, ?_, ?_, ?_, ?_, ?_⟩, ⟨fun x x1 x2 => ?_, fun j j1 => ?_⟩⟩
    · unfold qTk
      rw [qu_i _ _ _ _ _ (by decide), qov_o _ _ _ _ _ (by decide)]
      simp only [qu1, ↓reduceIte, Int.reduceEq]
      exact hWl.symm
    · unfold qTk
      rw [qu_s]
    · unfold qTk
      rw [qu_i _ _ _ _ _ (by decide), qov_o _ _ _ _ _ (by decide)]
      simp only [qu1, ↓reduceIte, Int.reduceEq]
    · unfold qTk
      rw [qu_i _ _ _ _ _ (by decide), qov_o _ _ _ _ _ (by decide)]
      simp only [qu1, ↓reduceIte, Int.reduceEq]
    · unfold qTk
      rw [qu_i _ _ _ _ _ (by decide), qov_o _ _ _ _ _ (by decide)]
      simp only [qu1, ↓reduceIte, Int.reduceEq]
    · unfold qTk
      rw [qu_i _ _ _ _ _ (by decide), qov_o _ _ _ _ _ (by decide)]
      simp only [qu1, ↓reduceIte, Int.reduceEq]
    · intro j j1 j2
      unfold qTk
      rw [qu_o _ _ _ _ _ (by decide), qov_i _ _ _ _ _ ⟨j1, by omega⟩, hW j j1 j2]
      unfold qsn
      show qsl (qsg (zm S 38) (zm S 37 2) (k + j)) = _
      rw [hqs j j1 (by omega)]
      by_cases c3 : c = 3
      · rw [if_pos c3, qb_p c3, if_pos rfl]
        omega
      · rw [if_neg c3, qb_n c3, if_neg (by decide)]
        omega
    · unfold qTk
      rw [qu_o _ _ _ _ _ x1, qov_o _ _ _ _ _ (fun q => x2 (by rw [q]; decide)), qu_o _ _ _ _ _ x1, qu_o _ _ _ _ _ x1, qu_o _ _ _ _ _ x1, qu_o _ _ _ _ _ x1, qu_o _ _ _ _ _ x1]
    · simp only [List.mem_cons, List.not_mem_nil, or_false, not_or] at j1
      obtain ⟨z1, z2, z3, z4, z5, z6⟩ := j1
      unfold qTk
      rw [qu_i _ _ _ _ _ z6, qov_o _ _ _ _ _ (by decide), qu_i _ _ _ _ _ z3, qu_i _ _ _ _ _ z4, qu_i _ _ _ _ _ z2, qu_i _ _ _ _ _ z5, qu_i _ _ _ _ _ z1]
/-- what both take from the tape as one word -/
def qTw (t : Int → Int) (n i E : Int) (W : List Int) (dg st bg mk : Int) : Prop := qWk2 W dg st bg mk ∧
  (∀ (d : Nat) (S : zS) (a b : Int), 4 ≤ d → qK S → zm S 4 0 = 5 → zm S 4 1 = n → (∀ i, i < n → zm S 5 i = t i) → qSk S a b → zm S a 0 = b → ∃ m', zD d 97 [vr 4, vi i, vr a] S = some (.inl (some (vi E)), qW S m') ∧ qSq m' a b W st dg bg (qmc mk) ∧ qfs a b (zm S) m') ∧
  (∀ (d : Nat) (S : zS), 5 ≤ d → qK S → qP (zm S) → zm S 37 2 = n → zm S 38 = t → 0 ≤ zm S 37 12 ∧ zm S 37 12 ≤ 12 → ∃ m', zD d 206 [vr 37, vi i] S = some (.inl (some (vi E)), qW S m') ∧ qRx m' W (qPw (zm S) W dg) dg st bg mk ∧ qfr [64] [32, 33, 34, 36, 37, 38] (zm S) m')
/-- words of a text from a place on -/
def qTx (t : Int → Int) (N : Int) (n : Nat) (fp : Nat → Int) (fW : Nat → List Int) (fd fs fb fm : Nat → Int) : Prop := ∀ i : Nat, i < n → (0 ≤ fp i ∧ fp i < fp (i + 1) - 1 ∧ fp (i + 1) - 1 ≤ N) ∧ (i + 1 < n → fp (i + 1) - 1 < N ∧ qpt (t (fp (i + 1) - 1))) ∧ (i + 1 = n → fp (i + 1) - 1 = N) ∧ qTw t N (fp i) (fp (i + 1) - 1) (fW i) (fd i) (fs i) (fb i) (fm i)
def qcsq {α : Type} (a : α) (f : Nat → α) : Nat → α
  | 0 => a
  | i + 1 => f i
theorem qcw_c (t : Int → Int) (p : Nat) : ∀ g : Nat, (∀ j : Int, (p : Int) ≤ j → j < p + g → ¬ qpt (t j)) → qcw t (p + g) = qcw t p := by
  intro g
  induction g with
  | zero => intro _; rfl
  | succ g ih =>
    intro h
    show qcw t (p + g) + (if qpt (t ((p + g : Nat) : Int)) then 1 else 0) = _
    rw [ih fun j j1 j2 => h j j1 (by omega), if_neg (h _ (by omega) (by omega)), Int.add_zero]
theorem qcw_m (t : Int → Int) (p : Nat) : ∀ g : Nat, qcw t p ≤ qcw t (p + g) := by
  intro g
  induction g with
  | zero => exact Int.le_refl _
  | succ g ih =>
    show _ ≤ qcw t (p + g) + (if qpt (t ((p + g : Nat) : Int)) then 1 else 0)
    split <;> omega
theorem qTx_ex (t : Int → Int) (N : Int) (hn : 0 ≤ N ∧ N ≤ 60) (hr : ∀ i, 0 ≤ i → i < N → 0 ≤ t i ∧ t i < 65536) : ∀ (G : Nat) (p : Int), 0 ≤ p → p ≤ N → qfa t (N - p).toNat p 0 0 = -1 → (G : Int) = qcw t N.toNat - qcw t p.toNat + 1 → ∃ fp fW fd fs fb fm, fp 0 = p ∧ qTx t N G fp fW fd fs fb fm := by
  intro G
  induction G with
  | zero =>
    intro p p0 p1 _ hG
    have := qcw_m t p.toNat (N.toNat - p.toNat)
    rw [show p.toNat + (N.toNat - p.toNat) = N.toNat by omega] at this
    omega
  | succ G ih =>
    intro p p0 p1 hv hG
    obtain ⟨W, dg, st, bg, mk, E, w1, ⟨e1, e2⟩, np, e3, e4, e5⟩ := q_word2 t N p hn p0 p1 hr hv
    have c1 := qcw_c t p.toNat (E.toNat - p.toNat) (fun j j1 j2 => np j (by omega) (by omega))
    rw [show p.toNat + (E.toNat - p.toNat) = E.toNat by omega] at c1
    by_cases c : E < N
    · obtain ⟨q1, q2⟩ := e3 c
      have c2 : qcw t (E + 1).toNat = qcw t E.toNat + 1 := by
        rw [show (E + 1).toNat = E.toNat + 1 by omega, qcw, if_pos (by rw [show ((E.toNat : Nat) : Int) = E by omega]; exact q1)]
      obtain ⟨fp, fW, fd, fs, fb, fm, f0, hx⟩ := ih (E + 1) (by omega) (by omega) q2 (by omega)
      have Gp : 0 < G := by
        by_cases q : 0 < G
        · exact q
        · have := qcw_m t (E + 1).toNat (N.toNat - (E + 1).toNat)
          rw [show (E + 1).toNat + (N.toNat - (E + 1).toNat) = N.toNat by omega] at this
          omega
      refine ⟨qcsq p fp, qcsq W fW, qcsq dg fd, qcsq st fs, qcsq bg fb, qcsq mk fm, rfl, fun i hi => ?_⟩
      cases i with
      | zero =>
        show (0 ≤ p ∧ p < fp 0 - 1 ∧ fp 0 - 1 ≤ N) ∧ (0 + 1 < G + 1 → fp 0 - 1 < N ∧ qpt (t (fp 0 - 1))) ∧ (0 + 1 = G + 1 → fp 0 - 1 = N) ∧ qTw t N p (fp 0 - 1) W dg st bg mk
        rw [f0, show E + 1 - 1 = E by omega]
        exact ⟨⟨p0, e1, e2⟩, fun _ => ⟨c, q1⟩, fun q => by omega, w1, e4, e5⟩
      | succ i =>
        obtain ⟨g1, g2, g3, g4⟩ := hx i (by omega)
        exact ⟨g1, fun q => g2 (by omega), fun q => g3 (by omega), g4⟩
    · obtain rfl : E = N := by omega
      have G0 : G = 0 := by omega
      subst G0
      refine ⟨qcsq p (fun _ => E + 1), qcsq W (fun _ => []), qcsq dg (fun _ => 0), qcsq st (fun _ => 0), qcsq bg (fun _ => 0), qcsq mk (fun _ => 0), rfl, fun i hi => ?_⟩
      obtain rfl : i = 0 := by omega
      show (0 ≤ p ∧ p < E + 1 - 1 ∧ E + 1 - 1 ≤ E) ∧ (0 + 1 < 0 + 1 → E + 1 - 1 < E ∧ qpt (t (E + 1 - 1))) ∧ (0 + 1 = 0 + 1 → E + 1 - 1 = E) ∧ qTw t E p (E + 1 - 1) W dg st bg mk
      rw [show E + 1 - 1 = E by omega]
      exact ⟨⟨p0, e1, Int.le_refl _⟩, fun q => absurd q (by decide), fun _ => rfl, w1, e4, e5⟩
theorem qTx_2 {t : Int → Int} {N : Int} {n : Nat} {fp : Nat → Int} {fW : Nat → List Int} {fd fs fb fm : Nat → Int} (h : qTx t N n fp fW fd fs fb fm) (h0 : fp 0 = 0) : ∀ i : Nat, i ≤ n → 2 * (i : Int) ≤ fp i ∧ fp i ≤ N + 1 ∨ i = 0 := by
  intro i
  induction i with
  | zero => intro _; exact Or.inr rfl
  | succ i ih =>
    intro hi
    obtain ⟨⟨g1, g2, g3⟩, -⟩ := h i (by omega)
    refine Or.inl ?_
    rcases ih (by omega) with q | q
    · omega
    · subst q
      omega
/-- what stands ahead of a word -/
def qah_ (t : Int → Int) (p : Int) (i : Nat) : Int := if i = 0 then 1 else if t (p - 1) = 47 then 1 else if t (p - 1) = 124 then 2 else 0
def qbtw (t : Int → Int) (p : Int) (i : Nat) : Int := if i = 0 then 47 else t (p - 1)
theorem qbtw_r {t : Int → Int} {p : Int} {i : Nat} (h : 0 < i → qpt (t (p - 1))) : (qah_ t p i = 1 ∧ qbtw t p i = 47) ∨ (qah_ t p i = 2 ∧ qbtw t p i = 124) ∨ (qah_ t p i = 0 ∧ qbtw t p i = 32) := by
  unfold qah_ qbtw
  by_cases c : i = 0
  · rw [if_pos c, if_pos c]
    exact Or.inl ⟨rfl, rfl⟩
  · rw [if_neg c, if_neg c]
    have := h (by omega)
    by_cases c1 : t (p - 1) = 47
    · rw [if_pos c1]
      exact Or.inl ⟨rfl, c1⟩
    · rw [if_neg c1]
      by_cases c2 : t (p - 1) = 124
      · rw [if_pos c2]
        exact Or.inr (Or.inl ⟨rfl, c2⟩)
      · rw [if_neg c2]
        exact Or.inr (Or.inr ⟨rfl, by omega⟩)
/-- parts, as bits -/
theorem qfp_p {P : Int → Prop} (nd dg n : Int) (hn : 0 ≤ n) (dm dv en its : Int → Int) : ∀ (f : Nat) (k p : Int), P p → (∀ i, k ≤ i → i < nd → qMt n dm dv its i → P (en i)) → P (qfp nd dg n dm dv en its f k p) := by
  intro f
  induction f with
  | zero => intro k p h _; exact h
  | succ f ih =>
    intro k p h1 h2
    rw [qfp]
    by_cases c : k < nd ∧ dg = 0
    · rw [if_pos c]
      refine ih (k + 1) _ ?_ fun i i1 i2 => h2 i (by omega) i2
      by_cases q : qMt n dm dv its k
      · rw [if_neg fun y => (qfp_m n hn dm dv its k).mp y q]
        exact h2 k (Int.le_refl _) c.1 q
      · rw [if_pos ((qfp_m n hn dm dv its k).mpr q)]
        exact h1
    · rw [if_neg c]
      exact h1
theorem qPw_p {S : zS} (h : qRK S) (hn : 0 ≤ zm S 37 12) (W : List Int) (dg : Int) : ∃ p : Nat, qPw (zm S) W dg = (p : Int) ∧ (p = 0 ∨ qPk p W.length) := by
  unfold qPw
  refine qfp_p (P := fun v => ∃ p : Nat, v = (p : Int) ∧ (p = 0 ∨ qPk p W.length)) _ _ _ (Int.natCast_nonneg _) _ _ _ _ _ _ _ ⟨0, rfl, Or.inl rfl⟩ fun i i1 i2 hm => ?_
  obtain ⟨p, n, h1, h2, h3⟩ := h i i1 i2
  have : n = W.length := by
    have := hm.1
    omega
  exact ⟨p, h1, Or.inr (by rw [← this]; exact h3)⟩
theorem qWo_d {T : Int → Int → Int} {N g dg st bg mk ah : Int} {W : List Int} {p : Nat} (w2 : qWk2 W dg st bg mk) (hN : 0 ≤ N) (tk : qTok T N) (pk : p = 0 ∨ qPk p W.length) (l4 : (qpl (p : Int) W.length W.length).length ≤ 4) (oa : ah = 0 ∨ ah = 1 ∨ ah = 2) : qWo (qwL T N g W p dg st bg (qmc mk)) (qwE T N g W p dg st bg) ah := by
  obtain ⟨w1, -, -, w4, -, -⟩ := w2
  have ll := qwL_c (T := T) (N := N) (g := g) (P := p) (dg := dg) (st := st) (bg := bg) (mk := qmc mk) (W := W)
  have el : (qwE T N g W p dg st bg).length = (qpl (p : Int) W.length W.length).length := by unfold qwE; rw [List.length_map]
  have e1 := qpl_1 w1.1 pk
  refine ⟨qwL_l hN tk w1.2 w4.2, fun i i1 i2 => qwL_v hN tk (qmc_r mk) _ (qnth_m _ _ ⟨i1, i2⟩), ⟨?_, by rw [el]; exact l4⟩, fun i i1 i2 => ?_, oa⟩
  · rw [el, e1]
    split
    · exact Nat.le_refl 1
    · next c => exact qpc_p (pk.resolve_left c)
  · rw [el] at i2
    unfold qwE
    rw [qnth_map _ _ _ ⟨i1, i2⟩]
    have := qcc_r (qwC T N g W p dg) (qnth (qpl (p : Int) W.length W.length) i)
    omega
