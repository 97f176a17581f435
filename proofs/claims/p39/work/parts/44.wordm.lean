/-! A word on the tape: where its letters begin and end. -/
theorem qed_core (s : Int → Int) (first : Int) : ∀ (f : Nat) (k : Int), k - first ≤ 6 → qed s first f k - first ≤ 6 ∧ ∀ j, k ≤ j → j < qed s first f k → qdg (s j)
  | 0, k, h => ⟨h, fun j h1 h2 => by simp only [qed] at h2; omega⟩
  | f + 1, k, h => by
    simp only [qed]
    by_cases hc : qdg (s k) ∧ k - first < 6
    · rw [if_pos hc]
      obtain ⟨h1, h2⟩ := qed_core s first f (k + 1) (by omega)
      refine ⟨h1, fun j h3 h4 => ?_⟩
      by_cases e : j = k
      · rw [e]; exact hc.1
      · exact h2 j (by omega) h4
    · rw [if_neg hc]
      exact ⟨h, fun j h3 h4 => by omega⟩
theorem qel_core (s : Int → Int) (first : Int) : ∀ (f : Nat) (k kind : Int), first < k → k - first ≤ 10 → (kind = 0 ∨ kind = 1 ∧ k - first = 1 ∨ kind = 2) →
    qel s first f k kind - first ≤ 10 ∧ ((kind = 0 ∧ ∀ j, k ≤ j → j < qel s first f k kind → qsm (s j)) ∨ (kind = 1 ∧ ∀ j, k ≤ j → j < qel s first f k kind → qsm (s j)) ∨ (0 < kind ∧ (kind = 1 → k < qel s first f k kind) ∧ ∀ j, k ≤ j → j < qel s first f k kind → qbg (s j)))
  | 0, k, kind, _, h, hk => by
    simp only [qel]
    refine ⟨h, ?_⟩
    rcases hk with rfl | ⟨rfl, -⟩ | rfl
    · exact Or.inl ⟨rfl, fun j h1 h2 => by omega⟩
    · exact Or.inr (Or.inl ⟨rfl, fun j h1 h2 => by omega⟩)
    · exact Or.inr (Or.inr ⟨by omega, fun h => by omega, fun j h1 h2 => by omega⟩)
  | f + 1, k, kind, hf, h, hk => by
    simp only [qel]
    by_cases hc : qgo (s k) (k - first) kind
    · rw [if_pos hc]
      rcases hk with rfl | ⟨rfl, h6⟩ | rfl
      · rw [if_neg (by omega)]
        obtain ⟨h1, h2⟩ := qel_core s first f (k + 1) 0 (by omega) (by omega) (Or.inl rfl)
        refine ⟨h1, Or.inl ⟨rfl, fun j h3 h4 => ?_⟩⟩
        by_cases e : j = k
        · rw [e]; omega
        · rcases h2 with ⟨-, h2⟩ | ⟨h5, -⟩ | ⟨h5, -⟩
          · exact h2 j (by omega) h4
          · omega
          · omega
      · rw [if_pos ⟨h6, rfl⟩]
        by_cases hb : qbg (s k)
        · rw [if_pos hb]
          have hi := qel_in s first f (k + 1) 2
          obtain ⟨h1, h2⟩ := qel_core s first f (k + 1) 2 (by omega) (by omega) (Or.inr (Or.inr rfl))
          refine ⟨h1, Or.inr (Or.inr ⟨by omega, fun _ => by omega, fun j h3 h4 => ?_⟩)⟩
          by_cases e : j = k
          · rw [e]; exact hb
          · rcases h2 with ⟨h5, -⟩ | ⟨h5, -⟩ | ⟨-, -, h2⟩
            · omega
            · omega
            · exact h2 j (by omega) h4
        · rw [if_neg hb]
          obtain ⟨h1, h2⟩ := qel_core s first f (k + 1) 0 (by omega) (by omega) (Or.inl rfl)
          refine ⟨h1, Or.inr (Or.inl ⟨rfl, fun j h3 h4 => ?_⟩)⟩
          by_cases e : j = k
          · rw [e]; omega
          · rcases h2 with ⟨-, h2⟩ | ⟨h5, -⟩ | ⟨h5, -⟩
            · exact h2 j (by omega) h4
            · omega
            · omega
      · rw [if_neg (by omega)]
        obtain ⟨h1, h2⟩ := qel_core s first f (k + 1) 2 (by omega) (by omega) (Or.inr (Or.inr rfl))
        refine ⟨h1, Or.inr (Or.inr ⟨by omega, fun h => by omega, fun j h3 h4 => ?_⟩)⟩
        by_cases e : j = k
        · rw [e]; omega
        · rcases h2 with ⟨h5, -⟩ | ⟨h5, -⟩ | ⟨-, -, h2⟩
          · omega
          · omega
          · exact h2 j (by omega) h4
    · rw [if_neg hc]
      refine ⟨h, ?_⟩
      rcases hk with rfl | ⟨rfl, -⟩ | rfl
      · exact Or.inl ⟨rfl, fun j h1 h2 => by omega⟩
      · exact Or.inr (Or.inl ⟨rfl, fun j h1 h2 => by omega⟩)
      · exact Or.inr (Or.inr ⟨by omega, fun h => by omega, fun j h1 h2 => by omega⟩)
/-- a word from i on: its letters or digits in [k, e), c: 0 small, 1 the first one great, 2 all great, 3 digits -/
def qWd (s : Int → Int) (i k e c : Int) : Prop := k = i + qb (s i = 42) ∧ k < e ∧ qeo s i = e + qb (qmk (s e)) ∧
  ((c = 3 ∧ e - k ≤ 6 ∧ ∀ j, k ≤ j → j < e → qdg (s j)) ∨ (e - k ≤ 10 ∧ ((c = 0 ∧ ∀ j, k ≤ j → j < e → qsm (s j)) ∨ (c = 1 ∧ qbg (s k) ∧ ∀ j, k < j → j < e → qsm (s j)) ∨ (c = 2 ∧ k + 1 < e ∧ ∀ j, k ≤ j → j < e → qbg (s j)))))
theorem qWd_ex (s : Int → Int) (i : Int) (hi : 0 ≤ i) (h : 0 ≤ qeo s i) : ∃ k e c, qWd s i k e c := by
  unfold qWd
  unfold qeo at h ⊢
  refine ⟨i + qb (s i = 42), ?_⟩
  have hb := qb_r (s i = 42)
  have hk : 0 ≤ i + qb (s i = 42) := by omega
  generalize i + qb (s i = 42) = k at h hk ⊢
  unfold qeo1 at h ⊢
  by_cases hd : qdg (s k)
  · rw [if_pos hd] at h ⊢
    obtain ⟨h1, h2⟩ := qed_core s k 7 k (by omega)
    exact ⟨qed s k 7 k, 3, rfl, by have := qed_1 s k hd; omega, rfl, Or.inl ⟨rfl, h1, h2⟩⟩
  · rw [if_neg hd] at h ⊢
    by_cases hl : qsm (s k) ∨ qbg (s k)
    · rw [if_pos hl] at h ⊢
      have hin := qel_in s k 11 (k + 1) (qb (qbg (s k)))
      by_cases hb : qbg (s k)
      · rw [qb_p hb] at h hin ⊢
        obtain ⟨h1, h2⟩ := qel_core s k 11 (k + 1) 1 (by omega) (by omega) (Or.inr (Or.inl ⟨rfl, by omega⟩))
        rcases h2 with ⟨h5, -⟩ | ⟨-, h2⟩ | ⟨-, h3, h2⟩
        · omega
        · exact ⟨_, 1, rfl, by omega, rfl, Or.inr ⟨h1, Or.inr (Or.inl ⟨rfl, hb, fun j h3 h4 => h2 j (by omega) h4⟩)⟩⟩
        · refine ⟨_, 2, rfl, by omega, rfl, Or.inr ⟨h1, Or.inr (Or.inr ⟨rfl, h3 rfl, fun j h4 h5 => ?_⟩)⟩⟩
          by_cases e : j = k
          · rw [e]; exact hb
          · exact h2 j (by omega) h5
      · rw [qb_n hb] at h hin ⊢
        obtain ⟨h1, h2⟩ := qel_core s k 11 (k + 1) 0 (by omega) (by omega) (Or.inl rfl)
        rcases h2 with ⟨-, h2⟩ | ⟨h5, -⟩ | ⟨h5, -⟩
        · refine ⟨_, 0, rfl, by omega, rfl, Or.inr ⟨h1, Or.inl ⟨rfl, fun j h4 h5 => ?_⟩⟩⟩
          by_cases e : j = k
          · rw [e]; omega
          · exact h2 j (by omega) h5
        · omega
        · omega
    · rw [if_neg hl] at h
      omega
/-- the text from a word's begin on is a text: its first word, and what goes on behind it -/
theorem qtx_step (t : Int → Int) (n i : Int) (h0 : 0 ≤ i) (h2 : i ≤ n) (h : qfa t (n - i).toNat i 0 0 = -1) :
    0 ≤ qeo (qsg t n) i ∧ i < qeo (qsg t n) i ∧ (qeo (qsg t n) i < n → qpt (t (qeo (qsg t n) i)) ∧ qfa t (n - (qeo (qsg t n) i + 1)).toNat (qeo (qsg t n) i + 1) 0 0 = -1) := by
  have hi := qeo_in (qsg t n) i h0
  rw [qfa_W t n i h0 h2] at h
  by_cases hn : qeo (qsg t n) i < 0
  · rw [if_pos hn] at h
    omega
  · rw [if_neg hn] at h
    refine ⟨by omega, hi.2.2 (by omega), fun hl => ?_⟩
    unfold qC at h
    rw [if_pos hl] at h
    by_cases hp : qpt (t (qeo (qsg t n) i))
    · rw [if_pos hp] at h
      exact ⟨hp, h⟩
    · rw [if_neg hp] at h
      omega
