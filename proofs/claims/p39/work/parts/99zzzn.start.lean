/-! The house that the law makes is known; the law over any script. -/
theorem q_isnewH {L : Nat} {sc : Int → Int} {S : zS} {ps : List (Int × Int × Int)} {W : Nat} (h : qI (zS0 L sc) S 103 qksT ps W) (hp : ∀ a j, qlm ps a j = if a = 81 ∧ 0 ≤ j ∧ j < 18 then 1000 else if 37 ≤ a then qlm qpsM0 a j else if 10 ≤ a ∧ a < 13 ∧ 0 ≤ j ∧ j < 6 then 1000 else qlm qpsC0 a j) :
    qHC S ∧ zm S 37 50 < zm S 37 16 ∧ zm S 37 16 = 0 ∧ zm S 37 65 = 0 := by
  obtain ⟨⟨⟨hK, hP, hL, hT, hC, hR, hB, hYn⟩, ⟨c4, hNb, hNc, hNr, c16, c65, c76⟩, ⟨d13, d3, d73⟩, hn⟩, -, -⟩ := q_isnew h hp
  have hm : ∀ a j, 3 ≤ a → a < 103 → zm S a j = qst0 a j := fun a j h1 h2 => (h.2.2.1 a j h1 h2).trans (hp a j)
  have zM : ∀ a j, 37 ≤ a → a < 103 → a ≠ 81 → (∀ p ∈ qpsM0, p.1 ≠ a) → zm S a j = 0 := fun a j h1 h2 h3 h4 => (hm a j (by omega) h2).trans (qst0_M h1 h3 h4 j)
  have e12 : zm S 37 12 = 0 := (hm 37 12 (by decide) (by decide)).trans (by decide +kernel)
  have e152 : zm S 15 2 = 0 := (hm 15 2 (by decide) (by decide)).trans (by decide +kernel)
  have e80 : zm S 37 80 = 0 := (hm 37 80 (by decide) (by decide)).trans (by decide +kernel)
  have e50 : zm S 37 50 = -1 := (hm 37 50 (by decide) (by decide)).trans (by decide +kernel)
  have e75 : zm S 37 75 = -1 := (hm 37 75 (by decide) (by decide)).trans (by decide +kernel)
  have z54 : ∀ j, zm S 54 j = 0 := fun j => zM 54 j (by decide) (by decide) (by decide) (by decide +kernel)
  have z62 : ∀ j, zm S 62 j = 0 := fun j => zM 62 j (by decide) (by decide) (by decide) (by decide +kernel)
  have z63 : ∀ j, zm S 63 j = 0 := fun j => zM 63 j (by decide) (by decide) (by decide) (by decide +kernel)
  have z85 : ∀ j, zm S 85 j = 0 := fun j => zM 85 j (by decide) (by decide) (by decide) (by decide +kernel)
  have z88 : ∀ j, zm S 88 j = 0 := fun j => zM 88 j (by decide) (by decide) (by decide) (by decide +kernel)
  have z91 : ∀ j, zm S 91 j = 0 := fun j => zM 91 j (by decide) (by decide) (by decide) (by decide +kernel)
  have z92 : ∀ j, zm S 92 j = 0 := fun j => zM 92 j (by decide) (by decide) (by decide) (by decide +kernel)
  refine ⟨⟨⟨⟨⟨hK, hP, hL, hn⟩, ⟨hT, hC, hR, fun k k1 k2 => by omega⟩, ⟨hYn, ⟨by rw [d13, d3], by rw [d3]; decide, by rw [d3]; decide⟩, ⟨⟨by rw [e152, e80], by rw [e80]; decide, by rw [e80]; decide⟩, fun k k1 k2 => by omega, fun i k i1 i2 i3 => by omega⟩, ⟨hNc, fun k k1 k2 => by omega, fun i k i1 i2 i3 => by omega⟩, ⟨hNr, fun i i1 i2 => by omega, fun i k i1 i2 i3 => by omega, fun i _ _ => ⟨z92 i, fun c _ _ => z91 _⟩⟩, fun i i1 i2 => by omega⟩, ⟨hNb, fun i i1 i2 => by omega, fun i k i1 i2 i3 => by omega, fun i _ _ => ⟨z54 i, z62 i, z63 i⟩⟩⟩, fun b b1 b2 => by omega⟩, ⟨fun b b1 b2 => by omega, fun k k1 k2 => by omega, by rw [d73, c65]; rfl, fun i _ _ => z85 i, fun k _ _ => z88 k⟩, ⟨by rw [e75]; decide, by rw [e75, c65]; decide⟩, fun k b x w t P k1 k2 => ?_⟩, by rw [e50, c16]; decide, c16, c65⟩
  rw [e75] at k1
  omega
theorem q_few {S : zS} (h : qHC S) : 0 ≤ zm S 37 16 + zm S 37 65 ∧ zm S 37 16 + zm S 37 65 ≤ 24 := by
  have h1 := h.1.1.2.2.2.1.2
  have h2 := h.1.1.2.2.1.2.2.2.1.1.2
  omega
