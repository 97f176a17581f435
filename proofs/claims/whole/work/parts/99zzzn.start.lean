/-! The house that the law makes is known; the law over any script. -/
theorem q_isnewH {L : Nat} {sc : Int → Int} {S : zS} {ps : List (Int × Int × Int)} {W : Nat} (h : qI (zS0 L sc) S 103 qksT ps W) (hp : ∀ a j, qlm ps a j = if a = 81 ∧ 0 ≤ j ∧ j < 18 then 1000 else if 37 ≤ a then qlm qpsM0 a j else if 10 ≤ a ∧ a < 13 ∧ 0 ≤ j ∧ j < 6 then 1000 else qlm qpsC0 a j) :
    qHC S ∧ zm S 37 50 < zm S 37 16 ∧ zm S 37 16 = 0 ∧ zm S 37 65 = 0 := by
  obtain ⟨⟨⟨hK, hP, hL, hT, hC, hR, hB, hYn⟩, ⟨c4, hNb, hNc, hNr, c16, c65, c76⟩, ⟨d13, d3, d73⟩, hn⟩, -, -⟩ := q_isnew h hp
  have hm : ∀ a j, 3 ≤ a → a < 103 → zm S a j = qst0 a j := fun a j h1 h2 => (h.2.2.1 a j h1 h2).trans (hp a j)
  have zM : ∀ a j, 37 ≤ a → a < 103 → a ≠ 81 → (∀ p ∈ qpsM0, p.1 ≠ a) → zm S a j = 0 := fun a j h1 h2 h3 h4 => (hm a j (by omega) h2).trans (qst0_M h1 h3 h4 j)
  have e12 : zm S 37 12 = 0 := (hm 37 12 (by decide) (by decide)).trans (by decide +kernel)
  have e152 : zm S 15 2 = 0 := (hm 15 2 (by decide) (by decide)).trans (by decide +kernel)
  have e80 : zm S 37 80 = 0 := (hm 37 80 (by decide) (by decide)).trans (by decide +kernel)
  have e50 : zm S 37 50 = -1 := (hm 37 50 (by decide) (by decide)).trans (by decide +kernel)
  have e75 : zm S 37 75 = -1 := (hm 37 75 (by decide) (by decide)).trans (by decide +kernel)
  have z54 : ∀ j, zm S 54 j = 0 := fun j => zM 54 j (by decide) (by decide) (by decide) (by decide +kernel)
  have z62 : ∀ j, zm S 62 j = 0 := fun j => zM 62 j (by decide) (by decide) (by decide) (by decide +kernel)
  have z63 : ∀ j, zm S 63 j = 0 := fun j => zM 63 j (by decide) (by decide) (by decide) (by decide +kernel)
  have z85 : ∀ j, zm S 85 j = 0 := fun j => zM 85 j (by decide) (by decide) (by decide) (by decide +kernel)
  have z88 : ∀ j, zm S 88 j = 0 := fun j => zM 88 j (by decide) (by decide) (by decide) (by decide +kernel)
  have z91 : ∀ j, zm S 91 j = 0 := fun j => zM 91 j (by decide) (by decide) (by decide) (by decide +kernel)
  have z92 : ∀ j, zm S 92 j = 0 := fun j => zM 92 j (by decide) (by decide) (by decide) (by decide +kernel)
  refine ⟨⟨⟨⟨⟨hK, hP, hL, hn⟩, ⟨hT, hC, hR, fun k k1 k2 => by omega⟩, ⟨hYn, ⟨by rw [d13, d3], by rw [d3]; decide, by rw [d3]; decide⟩, ⟨⟨by rw [e152, e80], by rw [e80]; decide, by rw [e80]; decide⟩, fun k k1 k2 => by omega, fun i k i1 i2 i3 => by omega⟩, ⟨hNc, fun k k1 k2 => by omega, fun i k i1 i2 i3 => by omega⟩, ⟨hNr, fun i i1 i2 => by omega, fun i k i1 i2 i3 => by omega, fun i _ _ => ⟨z92 i, fun c _ _ => z91 _⟩⟩, fun i i1 i2 => by omega⟩, ⟨hNb, fun i i1 i2 => by omega, fun i k i1 i2 i3 => by omega, fun i _ _ => ⟨z54 i, z62 i, z63 i⟩⟩⟩, fun b b1 b2 => by omega⟩, ⟨fun b b1 b2 => by omega, fun k k1 k2 => by omega, by rw [d73, c65]; rfl, fun i _ _ => z85 i, fun k _ _ => z88 k⟩, ⟨by rw [e75]; decide, by rw [e75, c65]; decide⟩, fun k b x w t P k1 k2 => ?_⟩, by rw [e50, c16]; decide, c16, c65⟩
  rw [e75] at k1
  omega
theorem q_few {S : zS} (h : qHC S) : 0 ≤ zm S 37 16 + zm S 37 65 ∧ zm S 37 16 + zm S 37 65 ≤ 24 := by
  have h1 := h.1.1.2.2.2.1.2
  have h2 := h.1.1.2.2.1.2.2.2.1.1.2
  omega
/-- the law's loop over a house -/
theorem q_loopH (L : Nat) (hL : L ≤ 3072) : ∀ (f : Nat) (i : Int) (S : zS), 0 ≤ i → (L : Int) < i + 6 * f + 6 → qHC S → zm S 37 50 < zm S 37 16 → zk S 1 = (40, (L : Int)) → zk S 102 = (1, 1) → ∃ S1, zF_341 799 23 [vr 1, vr 3, vr 37, vr 102, vi i, vu, vu, vu] [] S = some (.inl (some (vi 1)), S1) ∧ qHC S1 ∧ zc S1 ≤ zc S + 500 * f ∧ (zw S1 : Int) ≤ zw S + 2000 * f + 15000 * ((zm S1 37 16 + zm S1 37 65) - (zm S 37 16 + zm S 37 65)) := by
  have zl : z32 ((L : Int) - 6) = (L : Int) - 6 := q32 (by omega)
  intro f
  induction f with
  | zero =>
    intro i S i0 hi hH h5 k1 k102
    refine ⟨S, ?_, hH, by omega, by omega⟩
    rw [b341_23, k1, zchk_pos (Or.inr rfl)]
    show (if z32 ((L : Int) - 6) < i then _ else _) = _
    rw [zl, if_pos (by omega), b341_2499, zchk_pos (by decide)]
  | succ f ih =>
    intro i S i0 hi hH h5 k1 k102
    by_cases c : (L : Int) - 6 < i
    · refine ⟨S, ?_, hH, by omega, by omega⟩
      rw [b341_23, k1, zchk_pos (Or.inr rfl)]
      show (if z32 ((L : Int) - 6) < i then _ else _) = _
      rw [zl, if_pos c, b341_2499, zchk_pos (by decide)]
    · obtain ⟨S2, r2, ks, ⟨⟨H2, bc, bw⟩, g5, g16⟩⟩ := q_oneH 798 S L i vu vu vu (by decide) (by omega) k1 k102 hH h5
      have k1' : zk S2 1 = (40, (L : Int)) := by rw [ks.2 1 (by decide), k1]
      have k102' : zk S2 102 = (1, 1) := by rw [ks.2 102 (by decide), k102]
      have h5' : zm S2 37 50 < zm S2 37 16 := by
        rcases g5 with g5 | g5
        · omega
        · omega
      obtain ⟨S1, r1, H1, c1, w1⟩ := ih (i + 6) S2 (by omega) (by omega) H2 h5' k1' k102'
      have r2 : zF_341 799 33 [vr 1, vr 3, vr 37, vr 102, vi i, vu, vu, vu] [] S = zF_341 799 2493 [vr 1, vr 3, vr 37, vr 102, vi i, vu, vu, vu] [] S2 := r2
      refine ⟨S1, ?_, H1, by omega, by omega⟩
      rw [b341_23, k1, zchk_pos (Or.inr rfl)]
      show (if z32 ((L : Int) - 6) < i then _ else _) = _
      rw [zl, if_neg c, r2, b341_2493, show z32 (i + 6) = i + 6 from q32 (by omega)]
      exact r1
theorem q_runH (L : Nat) (hL : L ≤ 3072) (sc : Int → Int) : ∃ S1, zD 800 341 [vr 1] (zS0 L sc) = some (.inl (some (vi 1)), S1) ∧ zc S1 ≤ 300000 ∧ zw S1 ≤ 3000000 := by
  obtain ⟨S, W, ps, r, h, hW, hp⟩ := q_start 797 (zS0 L sc) (q_zS0 L sc)
  obtain ⟨-, k1, k102⟩ := q_isnew h hp
  obtain ⟨hH, h5, e16, e65⟩ := q_isnewH h hp
  have hn : (zn S : Int) = 103 := h.1
  have hc : zc S + 3 = zn S := h.2.2.2.2.2.1
  have hw : zw S = W := h.2.2.2.2.2.2.1
  have r : zD 800 341 [vr 1] (zS0 L sc) = zF_341 799 23 [vr 1, vr 3, vr 37, vr 102, vi 0, vu, vu, vu] [] S := r
  obtain ⟨S1, r1, H1, c1, w1⟩ := q_loopH L hL 512 0 S (by decide) (by omega) hH h5 k1 k102
  have q := q_few H1
  rw [e16, e65] at w1
  exact ⟨S1, by rw [r, r1], by omega, by omega⟩
