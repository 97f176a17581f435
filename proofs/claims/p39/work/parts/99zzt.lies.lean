/-! What is laid out of a word lies as it was. -/
def qZg (s s' : qZs) : Prop := s.1 ≤ s'.1 ∧ (s'.1 = s.1 → s.2.2.1 ≤ s'.2.2.1) ∧ ∀ l c, l < s.1 - 1 ∨ (l = s.1 - 1 ∧ c < s.2.2.1) → s'.2.2.2.1 l c = s.2.2.2.1 l c
theorem qZg_r (s : qZs) : qZg s s := ⟨Int.le_refl _, fun _ => Int.le_refl _, fun _ _ _ => rfl⟩
theorem qZg_t {s s1 s2 : qZs} (h : qZg s s1) (g : qZg s1 s2) : qZg s s2 := by
  obtain ⟨h1, h2, h3⟩ := h
  obtain ⟨g1, g2, g3⟩ := g
  refine ⟨by omega, fun q => ?_, fun l c hc => ?_⟩
  · have := h2 (by omega)
    have := g2 (by omega)
    omega
  · rw [g3 l c ?_, h3 l c hc]
    by_cases q : s1.1 = s.1
    · have := h2 q
      omega
    · omega
theorem qZg_b (s : qZs) : qZg s (qZb s) := by
  refine ⟨by show s.1 ≤ s.1 + 1; omega, fun q => ?_, fun l c hc => ?_⟩
  · have q : s.1 + 1 = s.1 := q
    omega
  · show (if l = s.1 then 0 else s.2.2.2.1 l c) = _
    rw [if_neg (by omega)]
theorem qZg_a (s : qZs) (k : Int) (h : s.2.2.1 ≤ k) : qZg s (qZa s k) := ⟨Int.le_refl _, fun _ => h, fun _ _ _ => rfl⟩
theorem qZg_w (w : Int) (s : qZs) : qZg s (qZr w s) := by
  refine ⟨by show s.1 ≤ s.1 + 1; omega, fun q => ?_, fun l c hc => ?_⟩
  · have q : s.1 + 1 = s.1 := q
    omega
  · show (if l = s.1 then qbar w (s.2.1 + 1) c else s.2.2.2.1 l c) = _
    rw [if_neg (by omega)]
theorem qZg_u (s : qZs) (L : List Int) : qZg s (qZu s L) := by
  refine ⟨Int.le_refl _, fun _ => by show s.2.2.1 ≤ s.2.2.1 + (L.length : Int); omega, fun l c hc => ?_⟩
  show (if l = s.1 - 1 ∧ s.2.2.1 ≤ c ∧ c < s.2.2.1 + L.length then qnth L (c - s.2.2.1) else s.2.2.2.1 l c) = _
  rw [if_neg (by omega)]
theorem qZg_0 (w t : Int) (s : qZs) (L E : List Int) (ah : Int) : qZg s (qZ0 w t s L E ah).1 := by
  by_cases c1 : ah = 1
  · rw [qZ0_1 c1]
    exact qZg_t (qZg_b s) (qZg_a _ 2 (by show (0 : Int) ≤ 2; decide))
  by_cases c2 : ah = 2
  · rw [qZ0_2 c1 c2]
    refine qZg_t ?_ (qZg_b _)
    refine qZg_t ?_ (qZg_w w _)
    split
    · exact qZg_b s
    · exact qZg_r s
  by_cases c3 : s.2.2.1 + 1 + L.length ≤ w
  · rw [qZ0_3 c1 c2 c3]
    exact qZg_a _ _ (by omega)
  by_cases c4 : qpm E (w - (s.2.2.1 + 1)) (E.length - 1) = 0
  · rw [qZ0_4 c1 c2 c3 c4]
    exact qZg_b s
  · rw [qZ0_5 c1 c2 c3 c4]
    exact qZg_a _ _ (by omega)
theorem qZg_1 (s : qZs) (L : List Int) (j : Int) : qZg s (qZ1 s L j) := by
  unfold qZ1
  split
  · exact qZg_t (qZg_t (qZg_u s _) (qZg_b _)) (qZg_u _ _)
  · exact qZg_u s L
theorem qZg_n (w t : Int) (fL fE : Nat → List Int) (fA : Nat → Int) (j : Nat) : ∀ g : Nat, qZg (qZn w t fL fE fA j) (qZn w t fL fE fA (j + g)) := by
  intro g
  induction g with
  | zero => exact qZg_r _
  | succ g ih =>
    refine qZg_t ih ?_
    show qZg _ (qZ w t (qZn w t fL fE fA (j + g)) (fL (j + g)) (fE (j + g)) (fA (j + g)))
    exact qZg_t (qZg_0 w t _ _ _ _) (qZg_1 _ _ _)
/-- where a word's cells lie, behind all words -/
theorem qZ1_l (s : qZs) (L : List Int) (j : Int) (hj : 0 ≤ j ∧ j ≤ L.length) (i : Int) (hi : 0 ≤ i ∧ i < (L.length : Int)) : (qZ1 s L j).2.2.2.1 (if i < j then s.1 - 1 else s.1) (if i < j then s.2.2.1 + i else i - j) = qnth L i ∧ ((if i < j then s.1 - 1 else s.1) < (qZ1 s L j).1 - 1 ∨ ((if i < j then s.1 - 1 else s.1) = (qZ1 s L j).1 - 1 ∧ (if i < j then s.2.2.1 + i else i - j) < (qZ1 s L j).2.2.1)) ∧ s.1 + (if j < L.length then 1 else 0) ≤ (qZ1 s L j).1 := by
  unfold qZ1
  by_cases c : j < L.length
  · rw [if_pos c, if_pos c]
    obtain ⟨s1, hs1⟩ : ∃ s1, qZu s (L.take j.toNat ++ [36]) = s1 := ⟨_, rfl⟩
    have tl := qtk_l hj
    have dl := qdp_l hj
    have a1 : s1.1 = s.1 := by rw [← hs1]; rfl
    have a2 : ∀ l c, s1.2.2.2.1 l c = if l = s.1 - 1 ∧ s.2.2.1 ≤ c ∧ c < s.2.2.1 + ((L.take j.toNat ++ [36]).length : Int) then qnth (L.take j.toNat ++ [36]) (c - s.2.2.1) else s.2.2.2.1 l c := fun l c => by rw [← hs1]; rfl
    rw [hs1]
    have b1 : (qZu (qZb s1) (L.drop j.toNat)).1 = s1.1 + 1 := rfl
    have b2 : (qZu (qZb s1) (L.drop j.toNat)).2.2.1 = 0 + ((L.drop j.toNat).length : Int) := rfl
    have b3 : ∀ l c, (qZu (qZb s1) (L.drop j.toNat)).2.2.2.1 l c = if l = s1.1 + 1 - 1 ∧ 0 ≤ c ∧ c < 0 + ((L.drop j.toNat).length : Int) then qnth (L.drop j.toNat) (c - 0) else if l = s1.1 then 0 else s1.2.2.2.1 l c := fun l c => rfl
    rw [b1, b2, b3, a1]
    by_cases q : i < j
    · rw [if_pos q, if_pos q, if_neg (by omega), if_neg (by omega), a2, if_pos (by omega), show s.2.2.1 + i - s.2.2.1 = i by omega, qtk_n hj i ⟨hi.1, by omega⟩, if_neg (by omega)]
      exact ⟨rfl, Or.inl (by omega), Int.le_refl _⟩
    · rw [if_neg q, if_neg q, if_pos (by omega), Int.sub_zero, qnth_drop _ _ _ (by omega), show ((j.toNat : Nat) : Int) + (i - j) = i by omega]
      exact ⟨rfl, Or.inr ⟨by omega, by omega⟩, Int.le_refl _⟩
  · rw [if_neg c, if_neg c]
    have q : i < j := by omega
    have b1 : (qZu s L).1 = s.1 := rfl
    have b2 : (qZu s L).2.2.1 = s.2.2.1 + (L.length : Int) := rfl
    have b3 : ∀ l c, (qZu s L).2.2.2.1 l c = if l = s.1 - 1 ∧ s.2.2.1 ≤ c ∧ c < s.2.2.1 + L.length then qnth L (c - s.2.2.1) else s.2.2.2.1 l c := fun l c => rfl
    rw [b1, b2, b3, if_pos q, if_pos q, if_pos (by omega), show s.2.2.1 + i - s.2.2.1 = i by omega]
    exact ⟨rfl, Or.inr ⟨rfl, by omega⟩, by omega⟩
theorem qZw_l {w t : Int} {fL fE : Nat → List Int} {fA : Nat → Int} {J : Nat} {j : Nat} (hj : j < J) {sp : Int} (hsp : qlp (fL j) (fE j) (qZp w t fL fE fA j).2 = sp) (h : 0 ≤ sp ∧ sp ≤ (fL j).length) (i : Int) (hi : 0 ≤ i ∧ i < ((fL j).length : Int)) :
    (qZn w t fL fE fA J).2.2.2.1 (if i < sp then (qZp w t fL fE fA j).1.1 - 1 else (qZp w t fL fE fA j).1.1) (if i < sp then (qZp w t fL fE fA j).1.2.2.1 + i else i - sp) = qnth (fL j) i ∧ (qZp w t fL fE fA j).1.1 + (if sp < (fL j).length then 1 else 0) ≤ (qZn w t fL fE fA J).1 := by
  have g := qZg_n w t fL fE fA (j + 1) (J - (j + 1))
  rw [show j + 1 + (J - (j + 1)) = J by omega] at g
  have e : qZn w t fL fE fA (j + 1) = qZ1 (qZp w t fL fE fA j).1 (fL j) sp := by rw [← hsp]; rfl
  rw [e] at g
  obtain ⟨l1, l2, l3⟩ := qZ1_l (qZp w t fL fE fA j).1 (fL j) sp h i hi
  obtain ⟨g1, -, g3⟩ := g
  exact ⟨by rw [g3 _ _ l2, l1], by omega⟩
