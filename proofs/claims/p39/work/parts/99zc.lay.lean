/-! How a book is laid out: lines, print page, place; a word behind another. -/
abbrev qZs : Type := Int × Int × Int × (Int → Int → Int) × (Int → Int)
def qZb (s : qZs) : qZs := (s.1 + 1, s.2.1, 0, (fun l c => if l = s.1 then 0 else s.2.2.2.1 l c), fun l => if l = s.1 then s.2.1 else s.2.2.2.2 l)
def qZa (s : qZs) (k : Int) : qZs := (s.1, s.2.1, k, s.2.2.2)
def qZu (s : qZs) (L : List Int) : qZs := (s.1, s.2.1, s.2.2.1 + L.length, (fun l c => if l = s.1 - 1 ∧ s.2.2.1 ≤ c ∧ c < s.2.2.1 + L.length then qnth L (c - s.2.2.1) else s.2.2.2.1 l c), s.2.2.2.2)
def qbar (w v c : Int) : Int := if c < w - 1 - qnu v then 36 else if c < w then qnc v (c - (w - 1 - qnu v)) else 0
def qZr (w : Int) (s : qZs) : qZs := (s.1 + 1, s.2.1 + 1, w, (fun l c => if l = s.1 then qbar w (s.2.1 + 1) c else s.2.2.2.1 l c), fun l => if l = s.1 then s.2.1 + 1 else s.2.2.2.2 l)
/-- where a word begins, and how many of its parts stand there -/
def qZ0 (w t : Int) (s : qZs) (L E : List Int) (ah : Int) : qZs × Int :=
  if ah = 1 then (qZa (qZb s) 2, E.length)
  else if ah = 2 then (qZb (qZr w (if s.1 % (t - 1) = t - 2 then qZb s else s)), E.length)
  else if s.2.2.1 + 1 + L.length ≤ w then (qZa s (s.2.2.1 + 1), E.length)
  else if qpm E (w - (s.2.2.1 + 1)) (E.length - 1) = 0 then (qZb s, E.length)
  else (qZa s (s.2.2.1 + 1), qpm E (w - (s.2.2.1 + 1)) (E.length - 1))
def qZ1 (s : qZs) (L : List Int) (j : Int) : qZs := if j < L.length then qZu (qZb (qZu s (L.take j.toNat ++ [36]))) (L.drop j.toNat) else qZu s L
def qZ (w t : Int) (s : qZs) (L E : List Int) (ah : Int) : qZs := qZ1 (qZ0 w t s L E ah).1 L (qlp L E (qZ0 w t s L E ah).2)
/-- what is known of a layout -/
def qZk (w : Int) (s : qZs) (A B : Int) : Prop := (0 ≤ s.1 ∧ s.1 ≤ A) ∧ (1 ≤ s.2.1 ∧ s.2.1 ≤ B) ∧ (0 ≤ s.2.2.1 ∧ s.2.2.1 ≤ w) ∧ (∀ l c, 0 ≤ s.2.2.2.1 l c ∧ s.2.2.2.1 l c < 64) ∧ (∀ c, s.2.2.1 ≤ c → s.2.2.2.1 (s.1 - 1) c = 0) ∧ (∀ l c, w ≤ c → s.2.2.2.1 l c = 0) ∧ ∀ l, 0 ≤ l → l < s.1 → 1 ≤ s.2.2.2.2 l ∧ s.2.2.2.2 l ≤ B
/-- what is known of a word -/
def qWo (L E : List Int) (ah : Int) : Prop := L.length ≤ 16 ∧ (∀ i, 0 ≤ i → i < (L.length : Int) → 0 ≤ qnth L i ∧ qnth L i < 64) ∧ (1 ≤ E.length ∧ E.length ≤ 4) ∧ (∀ i, 0 ≤ i → i < (E.length : Int) → 0 ≤ qnth E i ∧ qnth E i ≤ L.length) ∧ (ah = 0 ∨ ah = 1 ∨ ah = 2)
theorem qnc_r (v p : Int) : 0 ≤ qnc v p ∧ qnc v p < 64 := by
  unfold qnc qdg1
  split
  · omega
  · exact qlc_r _
theorem qbar_r (w v c : Int) : 0 ≤ qbar w v c ∧ qbar w v c < 64 := by
  unfold qbar
  split
  · omega
  · split
    · exact qnc_r _ _
    · omega
theorem qZk_m {w : Int} {s : qZs} {A B A2 B2 : Int} (h : qZk w s A B) (ha : A ≤ A2) (hb : B ≤ B2) : qZk w s A2 B2 := by
  obtain ⟨h1, h2, h3, h4, h5, h6, h7⟩ := h
  exact ⟨by omega, by omega, h3, h4, h5, h6, fun l l1 l2 => by have := h7 l l1 l2; omega⟩
theorem qZk_b {w : Int} {s : qZs} {A B : Int} (h : qZk w s A B) (hw : 0 ≤ w) : qZk w (qZb s) (A + 1) B := by
  obtain ⟨h1, h2, h3, h4, h5, h6, h7⟩ := h
  refine ⟨⟨by show 0 ≤ s.1 + 1; omega, by show s.1 + 1 ≤ _; omega⟩, h2, ⟨Int.le_refl _, hw⟩, fun l c => ?_, fun c _ => ?_, fun l c hc => ?_, fun l l1 l2 => ?_⟩
  · show 0 ≤ (if l = s.1 then 0 else s.2.2.2.1 l c) ∧ (if l = s.1 then 0 else s.2.2.2.1 l c) < 64
    split
    · omega
    · exact h4 l c
  · show (if s.1 + 1 - 1 = s.1 then 0 else s.2.2.2.1 (s.1 + 1 - 1) c) = 0
    rw [if_pos (by omega)]
  · show (if l = s.1 then 0 else s.2.2.2.1 l c) = 0
    split
    · rfl
    · exact h6 l c hc
  · show 1 ≤ (if l = s.1 then s.2.1 else s.2.2.2.2 l) ∧ (if l = s.1 then s.2.1 else s.2.2.2.2 l) ≤ B
    have l2 : l < s.1 + 1 := l2
    split
    · exact h2
    · exact h7 l l1 (by omega)
theorem qZk_r {w : Int} {s : qZs} {A B : Int} (h : qZk w s A B) (hw : 0 ≤ w) : qZk w (qZr w s) (A + 1) (B + 1) := by
  obtain ⟨h1, h2, h3, h4, h5, h6, h7⟩ := h
  refine ⟨⟨by show 0 ≤ s.1 + 1; omega, by show s.1 + 1 ≤ _; omega⟩, ⟨by show 1 ≤ s.2.1 + 1; omega, by show s.2.1 + 1 ≤ _; omega⟩, ⟨hw, Int.le_refl _⟩, fun l c => ?_, fun c hc => ?_, fun l c hc => ?_, fun l l1 l2 => ?_⟩
  · show 0 ≤ (if l = s.1 then qbar w (s.2.1 + 1) c else s.2.2.2.1 l c) ∧ (if l = s.1 then qbar w (s.2.1 + 1) c else s.2.2.2.1 l c) < 64
    split
    · exact qbar_r _ _ _
    · exact h4 l c
  · have hc : w ≤ c := hc
    show (if s.1 + 1 - 1 = s.1 then qbar w (s.2.1 + 1) c else s.2.2.2.1 (s.1 + 1 - 1) c) = 0
    have nr := qnu_r (s.2.1 + 1)
    rw [if_pos (by omega)]
    unfold qbar
    rw [if_neg (by omega), if_neg (by omega)]
  · show (if l = s.1 then qbar w (s.2.1 + 1) c else s.2.2.2.1 l c) = 0
    have nr := qnu_r (s.2.1 + 1)
    split
    · unfold qbar
      rw [if_neg (by omega), if_neg (by omega)]
    · exact h6 l c hc
  · show 1 ≤ (if l = s.1 then s.2.1 + 1 else s.2.2.2.2 l) ∧ (if l = s.1 then s.2.1 + 1 else s.2.2.2.2 l) ≤ B + 1
    have l2 : l < s.1 + 1 := l2
    split
    · omega
    · have := h7 l l1 (by omega)
      omega
theorem qZk_a {w : Int} {s : qZs} {A B k : Int} (h : qZk w s A B) (hk : s.2.2.1 ≤ k ∧ k ≤ w) : qZk w (qZa s k) A B := by
  obtain ⟨h1, h2, h3, h4, h5, h6, h7⟩ := h
  exact ⟨h1, h2, ⟨by show 0 ≤ k; omega, hk.2⟩, h4, fun c hc => h5 c (by have hc : k ≤ c := hc; omega), h6, h7⟩
theorem qZk_u {w : Int} {s : qZs} {A B : Int} {L : List Int} (h : qZk w s A B) (hL : ∀ i, 0 ≤ i → i < (L.length : Int) → 0 ≤ qnth L i ∧ qnth L i < 64) (hw : s.2.2.1 + L.length ≤ w) : qZk w (qZu s L) A B := by
  obtain ⟨h1, h2, h3, h4, h5, h6, h7⟩ := h
  refine ⟨h1, h2, ⟨by show 0 ≤ s.2.2.1 + (L.length : Int); omega, hw⟩, fun l c => ?_, fun c hc => ?_, fun l c hc => ?_, h7⟩
  · show 0 ≤ (if l = s.1 - 1 ∧ s.2.2.1 ≤ c ∧ c < s.2.2.1 + L.length then qnth L (c - s.2.2.1) else s.2.2.2.1 l c) ∧ (if l = s.1 - 1 ∧ s.2.2.1 ≤ c ∧ c < s.2.2.1 + L.length then qnth L (c - s.2.2.1) else s.2.2.2.1 l c) < 64
    split
    · next q => exact hL _ (by omega) (by omega)
    · exact h4 l c
  · have hc : s.2.2.1 + (L.length : Int) ≤ c := hc
    show (if s.1 - 1 = s.1 - 1 ∧ s.2.2.1 ≤ c ∧ c < s.2.2.1 + L.length then qnth L (c - s.2.2.1) else s.2.2.2.1 (s.1 - 1) c) = 0
    rw [if_neg (by omega)]
    exact h5 c (by omega)
  · show (if l = s.1 - 1 ∧ s.2.2.1 ≤ c ∧ c < s.2.2.1 + L.length then qnth L (c - s.2.2.1) else s.2.2.2.1 l c) = 0
    rw [if_neg (by omega)]
    exact h6 l c hc
theorem qlp_f {L E : List Int} {ah k : Int} (ho : qWo L E ah) (hk : 1 ≤ k) : 0 ≤ qlp L E k ∧ qlp L E k ≤ L.length := by
  obtain ⟨-, -, -, o4, -⟩ := ho
  unfold qlp
  rw [if_neg (by omega)]
  split
  · exact o4 _ (by omega) (by omega)
  · omega
theorem qlp_a (L E : List Int) (h : 1 ≤ E.length) : qlp L E E.length = L.length := by
  unfold qlp
  rw [if_neg (by omega), if_neg (by omega)]
theorem qZ0_f {w t A B : Int} {s : qZs} {L E : List Int} {ah : Int} (hs : qZk w s A B) (hw : 18 ≤ w) (ho : qWo L E ah) (h0 : s.1 = 0 → ah = 1) :
    qZk w (qZ0 w t s L E ah).1 (if qlp L E (qZ0 w t s L E ah).2 < L.length then A else A + 3) (B + 1) ∧ 0 < (qZ0 w t s L E ah).1.1 ∧ (1 ≤ (qZ0 w t s L E ah).2 ∧ (qZ0 w t s L E ah).2 ≤ E.length) ∧ (0 ≤ qlp L E (qZ0 w t s L E ah).2 ∧ qlp L E (qZ0 w t s L E ah).2 ≤ L.length) ∧ (qZ0 w t s L E ah).1.2.2.1 + (if qlp L E (qZ0 w t s L E ah).2 < L.length then qlp L E (qZ0 w t s L E ah).2 + 1 else L.length) ≤ w := by
  have ho0 := ho
  obtain ⟨o1, o2, o3, o4, o5⟩ := ho
  have la := qlp_a L E o3.1
  have hs0 := hs
  obtain ⟨h1, h2, h3, -⟩ := hs
  unfold qZ0
  by_cases c1 : ah = 1
  · rw [if_pos c1]
    show qZk w (qZa (qZb s) 2) (if qlp L E E.length < L.length then A else A + 3) (B + 1) ∧ 0 < s.1 + 1 ∧ (1 ≤ (E.length : Int) ∧ (E.length : Int) ≤ E.length) ∧ (0 ≤ qlp L E E.length ∧ qlp L E E.length ≤ L.length) ∧ 2 + (if qlp L E E.length < L.length then qlp L E E.length + 1 else L.length) ≤ w
    rw [la, if_neg (by omega), if_neg (by omega)]
    exact ⟨qZk_m (qZk_a (qZk_b hs0 (by omega)) (k := 2) ⟨by show 0 ≤ (2 : Int); decide, by omega⟩) (by omega) (by omega), by omega, by omega, by omega, by omega⟩
  rw [if_neg c1]
  by_cases c2 : ah = 2
  · rw [if_pos c2]
    have g : qZk w (if s.1 % (t - 1) = t - 2 then qZb s else s) (A + 1) B := by
      split
      · exact qZk_b hs0 (by omega)
      · exact qZk_m hs0 (by omega) (by omega)
    obtain ⟨s1, hs1⟩ : ∃ s1, (if s.1 % (t - 1) = t - 2 then qZb s else s) = s1 := ⟨_, rfl⟩
    rw [hs1] at g ⊢
    show qZk w (qZb (qZr w s1)) (if qlp L E E.length < L.length then A else A + 3) (B + 1) ∧ 0 < s1.1 + 1 + 1 ∧ (1 ≤ (E.length : Int) ∧ (E.length : Int) ≤ E.length) ∧ (0 ≤ qlp L E E.length ∧ qlp L E E.length ≤ L.length) ∧ 0 + (if qlp L E E.length < L.length then qlp L E E.length + 1 else L.length) ≤ w
    rw [la, if_neg (by omega), if_neg (by omega)]
    have g1 := g.1.1
    exact ⟨qZk_m (qZk_b (qZk_r g (by omega)) (by omega)) (by omega) (by omega), by omega, by omega, by omega, by omega⟩
  rw [if_neg c2]
  have hn : 0 < s.1 := by
    by_cases c : s.1 = 0
    · exact absurd (h0 c) c1
    · omega
  by_cases c3 : s.2.2.1 + 1 + L.length ≤ w
  · rw [if_pos c3]
    show qZk w (qZa s (s.2.2.1 + 1)) (if qlp L E E.length < L.length then A else A + 3) (B + 1) ∧ 0 < s.1 ∧ (1 ≤ (E.length : Int) ∧ (E.length : Int) ≤ E.length) ∧ (0 ≤ qlp L E E.length ∧ qlp L E E.length ≤ L.length) ∧ s.2.2.1 + 1 + (if qlp L E E.length < L.length then qlp L E E.length + 1 else L.length) ≤ w
    rw [la, if_neg (by omega), if_neg (by omega)]
    exact ⟨qZk_m (qZk_a hs0 (by omega)) (by omega) (by omega), hn, by omega, by omega, c3⟩
  rw [if_neg c3]
  by_cases c4 : qpm E (w - (s.2.2.1 + 1)) (E.length - 1) = 0
  · rw [if_pos c4]
    show qZk w (qZb s) (if qlp L E E.length < L.length then A else A + 3) (B + 1) ∧ 0 < s.1 + 1 ∧ (1 ≤ (E.length : Int) ∧ (E.length : Int) ≤ E.length) ∧ (0 ≤ qlp L E E.length ∧ qlp L E E.length ≤ L.length) ∧ 0 + (if qlp L E E.length < L.length then qlp L E E.length + 1 else L.length) ≤ w
    rw [la, if_neg (by omega), if_neg (by omega)]
    exact ⟨qZk_m (qZk_b hs0 (by omega)) (by omega) (by omega), by omega, by omega, by omega, by omega⟩
  · rw [if_neg c4]
    have pf := qpm_f E (w - (s.2.2.1 + 1)) (E.length - 1) c4
    have pr := qpm_r E (w - (s.2.2.1 + 1)) (E.length - 1)
    obtain ⟨k, hk⟩ : ∃ k, qpm E (w - (s.2.2.1 + 1)) (E.length - 1) = k := ⟨_, rfl⟩
    rw [hk] at pf pr c4 ⊢
    have lf := qlp_f ho0 (k := k) (by omega)
    have le : qlp L E k = qnth E (k - 1) := by
      unfold qlp
      rw [if_neg (by omega), if_pos (by omega)]
    have nn := o4 (k - 1) (by omega) (by omega)
    show qZk w (qZa s (s.2.2.1 + 1)) (if qlp L E k < L.length then A else A + 3) (B + 1) ∧ 0 < s.1 ∧ (1 ≤ k ∧ k ≤ E.length) ∧ (0 ≤ qlp L E k ∧ qlp L E k ≤ L.length) ∧ s.2.2.1 + 1 + (if qlp L E k < L.length then qlp L E k + 1 else L.length) ≤ w
    refine ⟨?_, hn, by omega, lf, ?_⟩
    · split
      · exact qZk_m (qZk_a hs0 (by omega)) (by omega) (by omega)
      · exact qZk_m (qZk_a hs0 (by omega)) (by omega) (by omega)
    · split
      · omega
      · omega
theorem qnth_take (L : List Int) (j : Nat) (i : Int) (h : 0 ≤ i ∧ i < j) : qnth (L.take j) i = qnth L i := by
  unfold qnth
  rw [List.getD_eq_getElem?_getD, List.getD_eq_getElem?_getD, List.getElem?_take, if_pos (by omega)]
theorem qnth_drop (L : List Int) (j : Nat) (i : Int) (h : 0 ≤ i) : qnth (L.drop j) i = qnth L (j + i) := by
  unfold qnth
  rw [List.getD_eq_getElem?_getD, List.getD_eq_getElem?_getD, List.getElem?_drop, show ((j : Int) + i).toNat = j + i.toNat by omega]
theorem qnth_1 (v : Int) : qnth [v] 0 = v := rfl
/-- the first cells and a hyphen -/
theorem qtk_l {L : List Int} {j : Int} (h : 0 ≤ j ∧ j ≤ L.length) : ((L.take j.toNat ++ [36]).length : Int) = j + 1 := by
  rw [List.length_append, List.length_take]
  show ((min j.toNat L.length + 1 : Nat) : Int) = j + 1
  omega
theorem qtk_n {L : List Int} {j : Int} (h : 0 ≤ j ∧ j ≤ L.length) (i : Int) (hi : 0 ≤ i ∧ i ≤ j) : qnth (L.take j.toNat ++ [36]) i = if i = j then 36 else qnth L i := by
  have ll : ((L.take j.toNat).length : Int) = j := by rw [List.length_take]; omega
  by_cases c : i = j
  · rw [if_pos c, qnth_r _ _ _ (by omega), ll, c, Int.sub_self, qnth_1]
  · rw [if_neg c, qnth_l _ _ _ (by omega), qnth_take _ _ _ (by omega)]
theorem qdp_l {L : List Int} {j : Int} (h : 0 ≤ j ∧ j ≤ L.length) : ((L.drop j.toNat).length : Int) = L.length - j := by
  rw [List.length_drop]; omega
theorem qZ1_f {w A B : Int} {s : qZs} {L : List Int} {j : Int} (hs : qZk w s (if j < L.length then A else A + 3) B) (hw : 18 ≤ w) (hL : L.length ≤ 16) (hr : ∀ i, 0 ≤ i → i < (L.length : Int) → 0 ≤ qnth L i ∧ qnth L i < 64) (hn : 0 < s.1) (hj : 0 ≤ j ∧ j ≤ L.length) (hp : s.2.2.1 + (if j < L.length then j + 1 else L.length) ≤ w) : qZk w (qZ1 s L j) (A + 3) B ∧ 0 < (qZ1 s L j).1 := by
  unfold qZ1
  by_cases c : j < L.length
  · rw [if_pos c] at hs hp ⊢
    have l1 := qtk_l hj
    have l2 := qdp_l hj
    refine ⟨qZk_m (qZk_u (qZk_b (qZk_u hs (fun i i1 i2 => ?_) (by omega)) (by omega)) (fun i i1 i2 => ?_) ?_) (by omega) (Int.le_refl _), ?_⟩
    · rw [qtk_n hj i (by omega)]
      split
      · omega
      · exact hr i i1 (by omega)
    · rw [qnth_drop _ _ _ i1]
      exact hr _ (by omega) (by omega)
    · show 0 + ((L.drop j.toNat).length : Int) ≤ w
      omega
    · show 0 < s.1 + 1
      omega
  · rw [if_neg c] at hs hp ⊢
    exact ⟨qZk_u hs hr hp, hn⟩
theorem qZ_f {w t A B : Int} {s : qZs} {L E : List Int} {ah : Int} (hs : qZk w s A B) (hw : 18 ≤ w) (ho : qWo L E ah) (h0 : s.1 = 0 → ah = 1) : qZk w (qZ w t s L E ah) (A + 3) (B + 1) ∧ 0 < (qZ w t s L E ah).1 := by
  obtain ⟨z1, z2, z3, z4, z5⟩ := qZ0_f (t := t) hs hw ho h0
  exact qZ1_f z1 hw ho.1 ho.2.1 z2 z4 z5
/-- the layout of the first words -/
def qZn (w t : Int) (fL fE : Nat → List Int) (fA : Nat → Int) : Nat → qZs
  | 0 => (0, 1, 0, (fun _ _ => 0), fun _ => 0)
  | j + 1 => qZ w t (qZn w t fL fE fA j) (fL j) (fE j) (fA j)
def qZp (w t : Int) (fL fE : Nat → List Int) (fA : Nat → Int) (j : Nat) : qZs × Int := qZ0 w t (qZn w t fL fE fA j) (fL j) (fE j) (fA j)
theorem qZn_f {w t : Int} {fL fE : Nat → List Int} {fA : Nat → Int} {J : Nat} (hw : 18 ≤ w) (ho : ∀ j, j < J → qWo (fL j) (fE j) (fA j)) (h0 : 0 < J → fA 0 = 1) : ∀ j, j ≤ J → qZk w (qZn w t fL fE fA j) (3 * j) (j + 1) ∧ (0 < j → 0 < (qZn w t fL fE fA j).1) := by
  intro j
  induction j with
  | zero =>
    intro _
    refine ⟨⟨⟨Int.le_refl _, Int.le_refl _⟩, ⟨Int.le_refl _, Int.le_refl _⟩, ⟨Int.le_refl _, by show 0 ≤ w; omega⟩, fun _ _ => ⟨Int.le_refl _, by show (0 : Int) < 64; decide⟩, fun _ _ => rfl, fun _ _ _ => rfl, fun l l1 l2 => ?_⟩, fun h => absurd h (Nat.lt_irrefl 0)⟩
    have l2 : l < 0 := l2
    omega
  | succ j ih =>
    intro hj
    obtain ⟨i1, i2⟩ := ih (by omega)
    have f := qZ_f (t := t) i1 hw (ho j (by omega)) (fun h => by
      cases j with
      | zero => exact h0 (by omega)
      | succ j => have := i2 (by omega); omega)
    rw [qZn, show (3 * ((j + 1 : Nat) : Int)) = 3 * (j : Int) + 3 by omega, show ((j + 1 : Nat) : Int) + 1 = (j : Int) + 1 + 1 by omega]
    exact ⟨f.1, fun _ => f.2⟩
theorem qZn_0 {w t : Int} {fL fE : Nat → List Int} {fA : Nat → Int} {J : Nat} (hw : 18 ≤ w) (ho : ∀ j, j < J → qWo (fL j) (fE j) (fA j)) (h0 : 0 < J → fA 0 = 1) (j : Nat) (hj : j < J) : (qZn w t fL fE fA j).1 = 0 → fA j = 1 := fun h => by
  cases j with
  | zero => exact h0 (by omega)
  | succ j => have := (qZn_f (t := t) hw ho h0 (j + 1) (by omega)).2 (by omega); omega
theorem qZn_c {w t : Int} {fL fE gL gE : Nat → List Int} {fA gA : Nat → Int} : ∀ J : Nat, (∀ j, j < J → gL j = fL j ∧ gE j = fE j ∧ gA j = fA j) → qZn w t gL gE gA J = qZn w t fL fE fA J := by
  intro J
  induction J with
  | zero => intro _; rfl
  | succ J ih =>
    intro h
    obtain ⟨h1, h2, h3⟩ := h J (by omega)
    rw [qZn, qZn, ih fun j hj => h j (by omega), h1, h2, h3]
