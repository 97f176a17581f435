/-! One fault in both ways. -/
def qC (t : Int → Int) (n E : Int) : Int := if E < n then (if qpt (t E) then qfa t (n - (E + 1)).toNat (E + 1) 0 0 else E) else -1
theorem qsg_lt {t : Int → Int} {n i : Int} (h : i < n) : qsg t n i = t i := if_pos h
theorem qsg_ge {t : Int → Int} {n i : Int} (h : ¬ i < n) : qsg t n i = 0 := if_neg h
theorem qfa_s (t : Int → Int) (n i st run : Int) (h : i < n) : qfa t (n - i).toNat i st run = if qnx st run (qkd (t i)) = -1 then i else
      qfa t (n - (i + 1)).toNat (i + 1) (qnx st run (qkd (t i))) (if qnx st run (qkd (t i)) = 0 ∨ qnx st run (qkd (t i)) = 1 ∨ qnx st run (qkd (t i)) = 6 then 0 else run + 1) := by
  rw [show (n - i).toNat = (n - (i + 1)).toNat + 1 by omega]
  rfl
theorem qfa_n (t : Int → Int) (n i st run : Int) (h : i = n) : qfa t (n - i).toNat i st run = if st = 0 ∨ st = 1 then i else -1 := by
  rw [show (n - i).toNat = 0 by omega]
  rfl
theorem qfa_to (t : Int → Int) (n i st run st' run' : Int) (h : i < n) (e : qnx st run (qkd (t i)) = st') (h1 : st' ≠ -1) (h2 : (if st' = 0 ∨ st' = 1 ∨ st' = 6 then 0 else run + 1) = run') :
    qfa t (n - i).toNat i st run = qfa t (n - (i + 1)).toNat (i + 1) st' run' := by
  rw [qfa_s t n i st run h, e, if_neg h1, h2]
theorem qfa_end (t : Int → Int) (n e st run : Int) (h0 : st ≠ 0) (h1 : st ≠ 1) (he : e ≤ n) (hx : e < n → qnx st run (qkd (t e)) = if qmk (t e) then 6 else if qpt (t e) then 0 else -1) :
    qfa t (n - e).toNat e st run = qC t n (e + qb (qmk (qsg t n e))) := by
  by_cases hl : e < n
  · have hx := hx hl
    rw [qsg_lt hl]
    by_cases hm : qmk (t e)
    · rw [if_pos hm] at hx
      rw [qb_p hm, qfa_to t n e st run 6 0 hl hx (by decide) (by rw [if_pos (by decide)])]
      unfold qC
      by_cases h2 : e + 1 < n
      · rw [if_pos h2]
        by_cases hp : qpt (t (e + 1))
        · rw [if_pos hp, qfa_to t n (e + 1) 6 0 0 0 h2 (by rw [qnx6, if_pos hp]) (by decide) (by rw [if_pos (by decide)])]
        · rw [if_neg hp, qfa_s t n _ _ _ h2, qnx6, if_neg hp, if_pos rfl]
      · rw [qfa_n t n _ _ _ (by omega), if_neg h2, if_neg (by decide)]
    · rw [if_neg hm] at hx
      rw [qb_n hm, Int.add_zero]
      unfold qC
      rw [if_pos hl]
      by_cases hp : qpt (t e)
      · rw [if_pos hp] at hx
        rw [if_pos hp, qfa_to t n e st run 0 0 hl hx (by decide) (by rw [if_pos (by decide)])]
      · rw [if_neg hp] at hx
        rw [if_neg hp, qfa_s t n e st run hl, hx, if_pos rfl]
  · rw [qfa_n t n e st run (by omega), if_neg (by omega), qsg_ge hl, qb_n (by decide), Int.add_zero]
    unfold qC
    rw [if_neg hl]
theorem qfa_D (t : Int → Int) (n first : Int) : ∀ (f : Nat) (k : Int), first < k → k ≤ n → k - first ≤ 6 → 7 ≤ f + (k - first) →
    qfa t (n - k).toNat k 5 (k - first) = qC t n (qed (qsg t n) first f k + qb (qmk (qsg t n (qed (qsg t n) first f k))))
  | 0, k, _, _, h3, h4 => by omega
  | f + 1, k, h1, h2, h3, h4 => by
    generalize hE : qed (qsg t n) first (f + 1) k = E
    simp only [qed] at hE
    by_cases hc : qdg (qsg t n k) ∧ k - first < 6
    · rw [if_pos hc] at hE
      have hl : k < n := by
        by_cases hl : k < n
        · exact hl
        · rw [qsg_ge hl] at hc
          omega
      rw [qsg_lt hl] at hc
      rw [qfa_to t n k 5 _ 5 (k + 1 - first) hl (by rw [qnx5, if_pos hc]) (by decide) (by rw [if_neg (by decide)]; omega), ← hE]
      exact qfa_D t n first f (k + 1) (by omega) (by omega) (by omega) (by omega)
    · rw [if_neg hc] at hE
      rw [← hE]
      refine qfa_end t n k 5 _ (by decide) (by decide) h2 fun hl => ?_
      rw [qsg_lt hl] at hc
      rw [qnx5, if_neg hc]
def qks (kind : Int) : Int := if kind = 0 then 2 else if kind = 1 then 3 else 4
theorem qfa_L (t : Int → Int) (n first : Int) : ∀ (f : Nat) (k kind : Int), first < k → k ≤ n → k - first ≤ 10 → 11 ≤ f + (k - first) → (kind = 0 ∨ kind = 1 ∧ k - first = 1 ∨ kind = 2) →
    qfa t (n - k).toNat k (qks kind) (k - first) = qC t n (qel (qsg t n) first f k kind + qb (qmk (qsg t n (qel (qsg t n) first f k kind))))
  | 0, k, kind, _, _, h3, h4, h5 => by omega
  | f + 1, k, kind, h1, h2, h3, h4, h5 => by
    generalize hE : qel (qsg t n) first (f + 1) k kind = E
    simp only [qel] at hE
    by_cases hc : qgo (qsg t n k) (k - first) kind
    · rw [if_pos hc] at hE
      have hl : k < n := by
        by_cases hl : k < n
        · exact hl
        · rw [qsg_ge hl] at hc
          omega
      rw [qsg_lt hl] at hc hE
      rcases h5 with rfl | ⟨rfl, h6⟩ | rfl
      · rw [if_neg (by omega)] at hE
        rw [← hE, show qks 0 = 2 from rfl, qfa_to t n k 2 _ 2 (k + 1 - first) hl (by rw [qnx2, if_pos (by omega)]) (by decide) (by rw [if_neg (by decide)]; omega)]
        exact qfa_L t n first f (k + 1) 0 (by omega) (by omega) (by omega) (by omega) (Or.inl rfl)
      · rw [if_pos ⟨h6, rfl⟩] at hE
        rw [show qks 1 = 3 from rfl]
        by_cases hb : qbg (t k)
        · rw [if_pos hb] at hE
          rw [← hE, qfa_to t n k 3 _ 4 (k + 1 - first) hl (by rw [qnx3, if_neg (by omega), if_pos (by omega)]) (by decide) (by rw [if_neg (by decide)]; omega)]
          exact qfa_L t n first f (k + 1) 2 (by omega) (by omega) (by omega) (by omega) (Or.inr (Or.inr rfl))
        · rw [if_neg hb] at hE
          rw [← hE, qfa_to t n k 3 _ 2 (k + 1 - first) hl (by rw [qnx3, if_pos (by omega)]) (by decide) (by rw [if_neg (by decide)]; omega)]
          exact qfa_L t n first f (k + 1) 0 (by omega) (by omega) (by omega) (by omega) (Or.inl rfl)
      · rw [if_neg (by omega)] at hE
        rw [← hE, show qks 2 = 4 from rfl, qfa_to t n k 4 _ 4 (k + 1 - first) hl (by rw [qnx4, if_pos (by omega)]) (by decide) (by rw [if_neg (by decide)]; omega)]
        exact qfa_L t n first f (k + 1) 2 (by omega) (by omega) (by omega) (by omega) (Or.inr (Or.inr rfl))
    · rw [if_neg hc] at hE
      rw [← hE]
      rcases h5 with rfl | ⟨rfl, h6⟩ | rfl
      · refine qfa_end t n k 2 _ (by decide) (by decide) h2 fun hl => ?_
        rw [qsg_lt hl] at hc
        rw [qnx2, if_neg (by omega)]
      · refine qfa_end t n k 3 _ (by decide) (by decide) h2 fun hl => ?_
        rw [qsg_lt hl] at hc
        rw [qnx3, if_neg (by omega), if_neg (by omega)]
      · refine qfa_end t n k 4 _ (by decide) (by decide) h2 fun hl => ?_
        rw [qsg_lt hl] at hc
        rw [qnx4, if_neg (by omega)]
theorem qfa_k (t : Int → Int) (n k st : Int) (hst : st = 0 ∨ st = 1) (h0 : 0 ≤ k) (h2 : k ≤ n) (hs : st = 0 → qsg t n k ≠ 42) :
    qfa t (n - k).toNat k st 0 = if qeo1 (qsg t n) k < 0 then -1 - qeo1 (qsg t n) k else qC t n (qeo1 (qsg t n) k) := by
  have hin := qeo1_in (qsg t n) k h0
  by_cases hl : k < n
  · have e : qnx st 0 (qkd (t k)) = if qsm (t k) then 2 else if qbg (t k) then 3 else if qdg (t k) then 5 else -1 := by
      rcases hst with rfl | rfl
      · rw [qnx0, if_neg (by have := hs rfl; rw [qsg_lt hl] at this; exact this)]
      · rw [qnx1]
    generalize hE : qeo1 (qsg t n) k = E at hin ⊢
    unfold qeo1 at hE
    by_cases hd : qdg (qsg t n k)
    · rw [if_pos hd] at hE
      have h1 := qed_1 (qsg t n) k hd
      have eq : qed (qsg t n) k 7 k = qed (qsg t n) k 6 (k + 1) := by
        show (if qdg (qsg t n k) ∧ k - k < 6 then qed (qsg t n) k 6 (k + 1) else k) = _
        rw [if_pos ⟨hd, by omega⟩]
      have hq := qb_r (qmk (qsg t n (qed (qsg t n) k 7 k)))
      rw [qsg_lt hl] at hd
      rw [if_neg (by omega), ← hE, eq, qfa_to t n k st 0 5 (k + 1 - k) hl (by rw [e, if_neg (by omega), if_neg (by omega), if_pos hd]) (by decide) (by rw [if_neg (by decide)]; omega)]
      exact qfa_D t n k 6 (k + 1) (by omega) (by omega) (by omega) (by omega)
    · rw [if_neg hd] at hE
      by_cases hc : qsm (qsg t n k) ∨ qbg (qsg t n k)
      · rw [if_pos hc] at hE
        have hi := qel_in (qsg t n) k 11 (k + 1) (qb (qbg (qsg t n k)))
        have hq := qb_r (qmk (qsg t n (qel (qsg t n) k 11 (k + 1) (qb (qbg (qsg t n k))))))
        rw [if_neg (by omega), ← hE]
        by_cases hb : qbg (qsg t n k)
        · rw [qb_p hb]
          rw [qsg_lt hl] at hb
          rw [qfa_to t n k st 0 3 (k + 1 - k) hl (by rw [e, if_neg (by omega), if_pos hb]) (by decide) (by rw [if_neg (by decide)]; omega)]
          exact qfa_L t n k 11 (k + 1) 1 (by omega) (by omega) (by omega) (by omega) (Or.inr (Or.inl ⟨rfl, by omega⟩))
        · have hsm : qsm (qsg t n k) := by omega
          rw [qb_n hb]
          rw [qsg_lt hl] at hsm
          rw [qfa_to t n k st 0 2 (k + 1 - k) hl (by rw [e, if_pos hsm]) (by decide) (by rw [if_neg (by decide)]; omega)]
          exact qfa_L t n k 11 (k + 1) 0 (by omega) (by omega) (by omega) (by omega) (Or.inl rfl)
      · rw [if_neg hc] at hE
        rw [qsg_lt hl] at hc hd
        rw [qfa_s t n k st 0 hl, e, if_neg (fun q => hc (Or.inl q)), if_neg (fun q => hc (Or.inr q)), if_neg hd, if_pos rfl, if_pos (by omega)]
        omega
  · have hs0 := qsg_ge (t := t) hl
    have hE : qeo1 (qsg t n) k = -1 - k := by
      unfold qeo1
      rw [hs0, if_neg (by decide), if_neg (by decide)]
    rw [qfa_n t n k st 0 (by omega), if_pos hst, hE, if_pos (by omega)]
    omega
theorem qfa_W (t : Int → Int) (n i : Int) (h0 : 0 ≤ i) (h2 : i ≤ n) :
    qfa t (n - i).toNat i 0 0 = if qeo (qsg t n) i < 0 then -1 - qeo (qsg t n) i else qC t n (qeo (qsg t n) i) := by
  unfold qeo
  by_cases hs : qsg t n i = 42
  · have hl : i < n := by
      by_cases hl : i < n
      · exact hl
      · rw [qsg_ge hl] at hs
        omega
    rw [qb_p hs, ← qfa_k t n (i + 1) 1 (Or.inr rfl) (by omega) (by omega) (fun h => by omega)]
    rw [qsg_lt hl] at hs
    exact qfa_to t n i 0 0 1 0 hl (by rw [qnx0, if_pos hs]) (by decide) (by rw [if_pos (by decide)])
  · rw [qb_n hs, Int.add_zero]
    exact qfa_k t n i 0 (Or.inl rfl) h0 h2 fun _ => hs
theorem qff_C (t : Int → Int) (n : Int) (hn : 0 ≤ n) : ∀ (f : Nat) (k : Int), 1 ≤ f → (0 ≤ k → n + 1 ≤ f + k) → qff (qsg t n) n f k = if k < 0 then -1 - k else qC t n k
  | 0, k, h1, _ => by omega
  | f + 1, k, h1, h2 => by
    simp only [qff]
    by_cases hk : k < 0
    · rw [if_pos hk, if_pos hk]
    · rw [if_neg hk, if_neg hk]
      unfold qC
      by_cases hl : k < n
      · rw [if_pos hl, if_pos hl, qsg_lt hl]
        by_cases hp : qpt (t k)
        · have hi := qeo_in (qsg t n) (k + 1) (by omega)
          rw [if_pos hp, if_pos hp, qff_C t n hn f _ (by omega) (by omega)]
          exact (qfa_W t n (k + 1) (by omega) (by omega)).symm
        · rw [if_neg hp, if_neg hp]
      · rw [if_neg hl, if_neg hl]
theorem qff_tf (t : Int → Int) (n : Int) (hn : 0 ≤ n) : qff0 (qsg t n) n = qtf t n := by
  unfold qff0 qtf
  rw [qff_C t n hn _ _ (by omega) (by omega)]
  have := qfa_W t n 0 (by omega) hn
  rw [Int.sub_zero] at this
  exact this.symm
