/-! The house that the law makes is new. -/
theorem qlm_no {ps : List (Int × Int × Int)} {a : Int} (h : ∀ p ∈ ps, p.1 ≠ a) (j : Int) : qlm ps a j = 0 := by
  induction ps with
  | nil => rfl
  | cons p r ih =>
    obtain ⟨b, i, v⟩ := p
    have hb : b ≠ a := h (b, i, v) List.mem_cons_self
    rw [qlm, if_neg (fun z => hb z.1.symm)]
    exact ih fun q hq => h q (List.mem_cons_of_mem _ hq)
def qst0 (a j : Int) : Int := if a = 81 ∧ 0 ≤ j ∧ j < 18 then 1000 else if 37 ≤ a then qlm qpsM0 a j else if 10 ≤ a ∧ a < 13 ∧ 0 ≤ j ∧ j < 6 then 1000 else qlm qpsC0 a j
theorem qst0_C {a : Int} (h1 : a < 37) (h2 : ¬ (10 ≤ a ∧ a < 13)) (h : ∀ p ∈ qpsC0, p.1 ≠ a) (j : Int) : qst0 a j = 0 := by
  unfold qst0
  rw [if_neg (by omega), if_neg (by omega), if_neg (by omega)]
  exact qlm_no h j
theorem qst0_M {a : Int} (h1 : 37 ≤ a) (h2 : a ≠ 81) (h : ∀ p ∈ qpsM0, p.1 ≠ a) (j : Int) : qst0 a j = 0 := by
  unfold qst0
  rw [if_neg (fun z => h2 z.1), if_pos h1]
  exact qlm_no h j
theorem qst0_K : ∀ q ∈ qKt, q = (2, (40, 26)) ∨ (3 ≤ q.1 ∧ q.1 < 103 ∧ qJk qksT q.1 = q.2) := by decide +kernel
theorem qst0_P : ∀ q ∈ qPt, 3 ≤ q.1 ∧ q.1 < 103 ∧ qst0 q.1 q.2.1 = q.2.2 := by decide +kernel
theorem q_zS0 (L : Nat) (sc : Int → Int) : qI (zS0 L sc) (zS0 L sc) 3 [] [] 0 := ⟨rfl, fun a h1 h2 => by omega, fun a j h1 h2 => by omega, fun _ _ => rfl, fun _ _ => rfl, rfl, rfl, by decide, fun p hp => by cases hp⟩
theorem q_isnew {L : Nat} {sc : Int → Int} {S : zS} {ps : List (Int × Int × Int)} {W : Nat} (h : qI (zS0 L sc) S 103 qksT ps W) (hp : ∀ a j, qlm ps a j = if a = 81 ∧ 0 ≤ j ∧ j < 18 then 1000 else if 37 ≤ a then qlm qpsM0 a j else if 10 ≤ a ∧ a < 13 ∧ 0 ≤ j ∧ j < 6 then 1000 else qlm qpsC0 a j) :
    qNew S ∧ zk S 1 = (40, (L : Int)) ∧ zk S 102 = (1, 1) := by
  have hm : ∀ a j, 3 ≤ a → a < 103 → zm S a j = qst0 a j := fun a j h1 h2 => (h.2.2.1 a j h1 h2).trans (hp a j)
  have k2 : ∀ a, a < 3 → zk S a = zk (zS0 L sc) a := h.2.2.2.1
  have m2 : ∀ a, a < 3 → zm S a = zm (zS0 L sc) a := h.2.2.2.2.1
  have zC : ∀ a j, 3 ≤ a → a < 37 → ¬ (10 ≤ a ∧ a < 13) → (∀ p ∈ qpsC0, p.1 ≠ a) → zm S a j = 0 := fun a j h1 h2 h3 h4 => (hm a j h1 (by omega)).trans (qst0_C h2 h3 h4 j)
  have zM : ∀ a j, 37 ≤ a → a < 103 → a ≠ 81 → (∀ p ∈ qpsM0, p.1 ≠ a) → zm S a j = 0 := fun a j h1 h2 h3 h4 => (hm a j (by omega) h2).trans (qst0_M h1 h3 h4 j)
  have hK : qK S := fun q hq => by
    rcases qst0_K q hq with rfl | ⟨h1, h2, h3⟩
    · rw [k2 2 (by decide)]
      rfl
    · rw [h.2.1 q.1 h1 h2]
      exact h3
  have hP : qP (zm S) := fun q hq => by
    obtain ⟨h1, h2, h3⟩ := qst0_P q hq
    rw [hm q.1 q.2.1 h1 h2]
    exact h3
  have hL : qLt (zm S) := by
    intro q hq
    rw [m2 2 (by decide)]
    show ((zlet q.1.toNat : Nat) : Int) = q.2
    revert q
    decide
  have e41 : zm S 4 1 = 0 := (hm 4 1 (by decide) (by decide)).trans (by decide +kernel)
  have e372 : zm S 37 2 = 0 := (hm 37 2 (by decide) (by decide)).trans (by decide +kernel)
  have e32 : zm S 3 2 = 0 := (hm 3 2 (by decide) (by decide)).trans (by decide +kernel)
  have e374 : zm S 37 4 = 0 := (hm 37 4 (by decide) (by decide)).trans (by decide +kernel)
  have e34 : zm S 3 4 = 0 := (hm 3 4 (by decide) (by decide)).trans (by decide +kernel)
  have e3712 : zm S 37 12 = 0 := (hm 37 12 (by decide) (by decide)).trans (by decide +kernel)
  have e36 : zm S 3 6 = 0 := (hm 3 6 (by decide) (by decide)).trans (by decide +kernel)
  have e3716 : zm S 37 16 = 0 := (hm 37 16 (by decide) (by decide)).trans (by decide +kernel)
  have e39 : zm S 3 9 = 0 := (hm 3 9 (by decide) (by decide)).trans (by decide +kernel)
  have e3765 : zm S 37 65 = 0 := (hm 37 65 (by decide) (by decide)).trans (by decide +kernel)
  have e311 : zm S 3 11 = 0 := (hm 3 11 (by decide) (by decide)).trans (by decide +kernel)
  have e3776 : zm S 37 76 = 0 := (hm 37 76 (by decide) (by decide)).trans (by decide +kernel)
  have e313 : zm S 3 13 = 0 := (hm 3 13 (by decide) (by decide)).trans (by decide +kernel)
  have e373 : zm S 37 3 = 0 := (hm 37 3 (by decide) (by decide)).trans (by decide +kernel)
  have e3773 : zm S 37 73 = 0 := (hm 37 73 (by decide) (by decide)).trans (by decide +kernel)
  have r5 : zm S 5 = zm S 38 := funext fun j => by rw [zC 5 j (by decide) (by decide) (by decide) (by decide +kernel), zM 38 j (by decide) (by decide) (by decide) (by decide +kernel)]
  have r39 : ∀ c, zm S 39 c = 0 := fun c => zM 39 c (by decide) (by decide) (by decide) (by decide +kernel)
  refine ⟨⟨⟨hK, hP, hL, ⟨by rw [e41, e372], by rw [e372]; decide, fun i _ => congrFun r5 i, fun i i1 i2 => by omega⟩, ⟨by rw [e32, e374], by rw [e374]; decide, fun c c1 c2 => by omega, fun i c i1 i2 c2 => by omega, fun c c1 c2 => r39 c⟩, ⟨by rw [e34, e3712], by rw [e3712]; decide, fun c c1 c2 => by omega, fun i k i1 i2 k2 => by omega⟩, ⟨by rw [e36, e3716], by rw [e3716]; decide, fun c c1 c2 => by omega⟩, fun e p e1 e2 p1 p2 => ?_⟩, ⟨e374, ⟨by rw [e36, e3716], by omega, by omega⟩, ⟨by rw [e39, e3765], by omega, by omega⟩, ⟨by rw [e311, e3776], by omega, by omega⟩, e3716, e3765, e3776⟩, ⟨e313, e373, e3773⟩, by rw [h.1]; decide⟩, k2 1 (by decide), h.2.1 102 (by decide) (by decide)⟩
  have x1 : zm S (10 + e) p = 1000 := by
    rw [hm (10 + e) p (by omega) (by omega)]
    unfold qst0
    rw [if_neg (by omega), if_neg (by omega), if_pos (by omega)]
  have x2 : zm S 81 (6 * e + p) = 1000 := by
    rw [hm 81 (6 * e + p) (by decide) (by decide)]
    unfold qst0
    rw [if_pos (by omega)]
  rw [x1, x2]
  decide
