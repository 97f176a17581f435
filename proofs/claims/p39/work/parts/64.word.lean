/-! A word of the tape, as both take it. -/
def qlf (g : Int → Int) : Nat → List Int
  | 0 => []
  | i + 1 => qlf g i ++ [g i]
theorem qlf_l (g : Int → Int) : ∀ n : Nat, (qlf g n).length = n := by
  intro n
  induction n with
  | zero => rfl
  | succ n ih => rw [qlf, List.length_append, ih]; rfl
theorem qlf_n (g : Int → Int) : ∀ (n : Nat) (i : Int), 0 ≤ i → i < n → qnth (qlf g n) i = g i := by
  intro n
  induction n with
  | zero => intro i h1 h2; omega
  | succ n ih =>
    intro i h1 h2
    rw [qlf]
    by_cases c : i < n
    · rw [qnth_l _ _ _ (by rw [qlf_l]; omega)]
      exact ih i h1 c
    · have e : i = n := by omega
      rw [e, qnth_r _ _ _ (by rw [qlf_l]; omega), qlf_l, Int.sub_self]
      rfl
/-- a word: letters from 0 on or digits, kind, star, great letters, sign of its mark -/
def qWk2 (W : List Int) (dg st bg mk : Int) : Prop := (0 < W.length ∧ W.length ≤ 10) ∧ (st = 0 ∨ st = 1) ∧ ((dg = 0 ∧ ∀ i, 0 ≤ i → i < (W.length : Int) → 0 ≤ qnth W i ∧ qnth W i < 26) ∨ (dg = 1 ∧ bg = 0 ∧ W.length ≤ 6 ∧ ∀ i, 0 ≤ i → i < (W.length : Int) → 0 ≤ qnth W i ∧ qnth W i ≤ 9)) ∧ (0 ≤ bg ∧ bg ≤ 2) ∧ (mk = 0 ∨ qmk mk) ∧ (bg = 2 → 1 < W.length)
theorem qmc_v (c : Int) : qmc (qmv c) = qmc c := by
  unfold qmv
  by_cases h : qmk c
  · rw [if_pos h]
  · rw [if_neg h]
    have : qmc c = 0 := by rw [qmc_0]; exact h
    rw [this]
    rfl
theorem q_word (t : Int → Int) (n i : Int) (hn : 0 ≤ n ∧ n ≤ 60) (h0 : 0 ≤ i) (hi : i ≤ n) (hr : ∀ i, 0 ≤ i → i < n → 0 ≤ t i ∧ t i < 65536) (h : qfa t (n - i).toNat i 0 0 = -1) :
    ∃ (W : List Int) (dg st bg mk E : Int), qWk2 W dg st bg mk ∧ (i < E ∧ E ≤ n) ∧ (E < n → qpt (t E) ∧ qfa t (n - (E + 1)).toNat (E + 1) 0 0 = -1) ∧
      (∀ (d : Nat) (S : zS) (a b : Int), 4 ≤ d → qK S → zm S 4 0 = 5 → zm S 4 1 = n → (∀ i, i < n → zm S 5 i = t i) → qSk S a b → zm S a 0 = b → ∃ m', zD d 97 [vr 4, vi i, vr a] S = some (.inl (some (vi E)), qW S m') ∧ qSq m' a b W st dg bg (qmc mk) ∧ qfs a b (zm S) m') ∧
      (∀ (d : Nat) (S : zS), 5 ≤ d → qK S → qP (zm S) → zm S 37 2 = n → zm S 38 = t → 0 ≤ zm S 37 12 ∧ zm S 37 12 ≤ 12 → ∃ m', zD d 206 [vr 37, vi i] S = some (.inl (some (vi E)), qW S m') ∧ qRx m' W (qPw (zm S) W dg) dg st bg mk ∧ qfr [64] [32, 33, 34, 36, 37, 38] (zm S) m') := by
  obtain ⟨s1, s2, s3⟩ := qtx_step t n i h0 hi h
  obtain ⟨k, e, c, hw⟩ := qWd_ex (qsg t n) i h0 s1
  obtain ⟨g1, g2, g3, g4⟩ := qWd_n _ _ _ _ _ _ hn.1 hw
  have hw0 := hw
  obtain ⟨hk, hke, hE, hc⟩ := hw
  have hb := qb_r (qsg t n i = 42)
  have hb2 := qb_r (qmk (qsg t n e))
  have hl10 : e - k ≤ 10 := by omega
  have hks : 0 ≤ k := by omega
  have hW : ∀ x, 0 ≤ x → x < ((qlf (qsn t k c) (e - k).toNat).length : Int) → qnth (qlf (qsn t k c) (e - k).toNat) x = qsn t k c x := fun x x1 x2 => qlf_n _ _ x x1 (by rw [qlf_l] at x2; exact x2)
  have hWl : ((qlf (qsn t k c) (e - k).toNat).length : Int) = e - k := by rw [qlf_l]; omega
  have hqs : ∀ x, 0 ≤ x → x < e - k → qsg t n (k + x) = t (k + x) := fun x x1 x2 => qsg_lt (by omega)
  refine ⟨qlf (qsn t k c) (e - k).toNat, qb (c = 3), qb (qsg t n i = 42), if c = 3 then 0 else c, qmv (qsg t n e), qeo (qsg t n) i, ⟨?_, ?_, ?_, ?_, ?_, ?_⟩, ⟨by omega, g3⟩, s3, ?_, ?_⟩
  · omega
  · omega
  · by_cases c3 : c = 3
    · refine Or.inr ⟨qb_p c3, if_pos c3, by omega, fun x x1 x2 => ?_⟩
      have hd : qdg (t (k + x)) := by
        rcases hc with ⟨-, -, q⟩ | ⟨-, ⟨q, -⟩ | ⟨q, -⟩ | ⟨q, -⟩⟩
        · have := q (k + x) (by omega) (by omega)
          rw [hqs x x1 (by omega)] at this
          exact this
        · omega
        · omega
        · omega
      rw [hW x x1 x2]
      unfold qsn qsl
      rw [if_pos c3, if_neg (by omega)]
      omega
    · refine Or.inl ⟨qb_n c3, fun x x1 x2 => ?_⟩
      have hd : qsm (t (k + x)) ∨ qbg (t (k + x)) := by
        rcases hc with ⟨q, -⟩ | ⟨-, ⟨-, q⟩ | ⟨-, q1, q⟩ | ⟨-, -, q⟩⟩
        · exact absurd q c3
        · have := q (k + x) (by omega) (by omega)
          rw [hqs x x1 (by omega)] at this
          exact Or.inl this
        · by_cases y : x = 0
          · rw [← hqs x x1 (by omega), y, show k + 0 = k by omega]
            exact Or.inr q1
          · have := q (k + x) (by omega) (by omega)
            rw [hqs x x1 (by omega)] at this
            exact Or.inl this
        · have := q (k + x) (by omega) (by omega)
          rw [hqs x x1 (by omega)] at this
          exact Or.inr this
      rw [hW x x1 x2]
      unfold qsn qsl
      rw [if_neg c3]
      rcases hd with hd | hd
      · rw [if_neg (by omega)]
        omega
      · rw [if_pos hd]
        omega
  · split
    · omega
    · omega
  · unfold qmv
    split
    · rename_i q; exact Or.inr q
    · exact Or.inl rfl
  · intro q
    by_cases c3 : c = 3
    · rw [if_pos c3] at q
      omega
    · rw [if_neg c3] at q
      omega
  · intro d S a b hd hK p0 p1 p5 hkk hp
    have eg := qsg_e p5
    have sp := s_spell d S hd hK n a b i k e c p0 p1 hn hkk.1 hkk.2 hp h0 (by rw [eg]; exact hw0) (by rw [eg]; intro q; rw [p5 _ q]; exact (s3 q).1)
    rw [eg] at sp
    have hu : ∀ x, 0 ≤ x → x < e - k → qsn (zm S 5) k c x = qsn t k c x := fun x x1 x2 => by unfold qsn; rw [p5 (k + x) (by omega)]
    refine ⟨_, sp, ⟨?_, ?_, ?_, ?_, ?_, ?_, ?_⟩, fun x x1 x2 => qSp_o _ _ _ _ _ _ _ _ _ _ x1 x2, qSp_0 _ _ _ _ _ _ _ _ _⟩
    · rw [qSp_0, hp]
    · rw [qSp_1, hWl]
    · rw [qSp_2]
    · rw [qSp_3]
    · rw [qSp_4]
    · rw [qSp_5, qmc_v]
    · exact qA_f fun x x1 x2 => by rw [qSp_g _ _ _ _ _ _ _ _ _ _ (Ne.symm (qkne hkk.1 hkk.2 (by decide))) ⟨x1, by omega⟩, hW x x1 x2, hu x x1 (by omega)]
  · intro d S hd hK hP p2 p38 hnd
    subst p38 p2
    have hT : qTr (zm S) := ⟨hn.1, hn.2, hr⟩
    have tw := r_takesWord d S hd hK hP hT hnd i k e c h0 (by omega) hw0
    have ep : qpts (zm S) (qb (c = 3)) (e - k) (qov (zm S) 64 (fun x => qsl (qms (zm S) (k + x))) (e - k) 64) = qPw (zm S) (qlf (qsn (zm S 38) k c) (e - k).toNat) (qb (c = 3)) := by
      unfold qpts qPw
      rw [hWl]
      refine qfp_c _ _ _ (by omega) _ _ _ _ _ (fun q j j1 j2 => ?_) _ _ _
      rw [qov_i _ _ _ _ _ ⟨j1, j2⟩, hW j j1 (by omega)]
      have c3 : ¬ c = 3 := by rw [qb_0] at q; exact q
      unfold qsn
      rw [if_neg c3]
      show qsl (qsg (zm S 38) (zm S 37 2) (k + j)) = _
      rw [hqs j j1 j2]
      omega
    rw [ep] at tw
    refine ⟨_, tw, ⟨?_, ?_, ?_, ?_, ?_, ?_, ?_⟩, ⟨fun x x1 x2 => ?_, fun j j1 => ?_⟩⟩
    · unfold qTk
      rw [qu_i _ _ _ _ _ (by decide), qov_o _ _ _ _ _ (by decide)]
      simp only [qu1, ↓reduceIte, Int.reduceEq]
      exact hWl.symm
    · unfold qTk
      rw [qu_s]
    · unfold qTk
      rw [qu_i _ _ _ _ _ (by decide), qov_o _ _ _ _ _ (by decide)]
      simp only [qu1, ↓reduceIte, Int.reduceEq]
    · unfold qTk
      rw [qu_i _ _ _ _ _ (by decide), qov_o _ _ _ _ _ (by decide)]
      simp only [qu1, ↓reduceIte, Int.reduceEq]
    · unfold qTk
      rw [qu_i _ _ _ _ _ (by decide), qov_o _ _ _ _ _ (by decide)]
      simp only [qu1, ↓reduceIte, Int.reduceEq]
    · unfold qTk
      rw [qu_i _ _ _ _ _ (by decide), qov_o _ _ _ _ _ (by decide)]
      simp only [qu1, ↓reduceIte, Int.reduceEq]
    · intro j j1 j2
      unfold qTk
      rw [qu_o _ _ _ _ _ (by decide), qov_i _ _ _ _ _ ⟨j1, by omega⟩, hW j j1 j2]
      unfold qsn
      show qsl (qsg (zm S 38) (zm S 37 2) (k + j)) = _
      rw [hqs j j1 (by omega)]
      by_cases c3 : c = 3
      · rw [if_pos c3, qb_p c3, if_pos rfl]
        omega
      · rw [if_neg c3, qb_n c3, if_neg (by decide)]
        omega
    · unfold qTk
      rw [qu_o _ _ _ _ _ x1, qov_o _ _ _ _ _ (fun q => x2 (by rw [q]; decide)), qu_o _ _ _ _ _ x1, qu_o _ _ _ _ _ x1, qu_o _ _ _ _ _ x1, qu_o _ _ _ _ _ x1, qu_o _ _ _ _ _ x1]
    · simp only [List.mem_cons, List.not_mem_nil, or_false, not_or] at j1
      obtain ⟨z1, z2, z3, z4, z5, z6⟩ := j1
      unfold qTk
      rw [qu_i _ _ _ _ _ z6, qov_o _ _ _ _ _ (by decide), qu_i _ _ _ _ _ z3, qu_i _ _ _ _ _ z4, qu_i _ _ _ _ _ z2, qu_i _ _ _ _ _ z5, qu_i _ _ _ _ _ z1]
