/-! One house asked by the law. -/
def hOk (n : Nat) (V : zS) (F : Int → zS → zR) : Prop := ∃ V2, hD V V2 ∧ (zc V2 ≤ zc V + n ∧ zw V2 ≤ zw V + 6 * n) ∧ ∀ Z a b W, hH a b Z V W → ∃ Z1, F a Z = some (.inl (some (vi 1)), Z1) ∧ hM a b W V V2 Z Z1
theorem hOk.eq {n : Nat} {V : zS} {F F' : Int → zS → zR} (h : hOk n V F') (hF : ∀ a Z, F a Z = F' a Z) : hOk n V F := by
  obtain ⟨V2, d, c, g⟩ := h
  exact ⟨V2, d, c, fun Z a b W hh => by rw [hF]; exact g Z a b W hh⟩
theorem hOk.fin {V : zS} {F : Int → zS → zR} (hV : qHC V) (hF : ∀ a Z, F a Z = some (.inl (some (vi 1)), Z)) : hOk 0 V F := ⟨V, hD.rf hV, ⟨Nat.le_refl _, Nat.le_refl _⟩, fun Z a b W hh => ⟨Z, hF a Z, hM.rf hh⟩⟩
theorem hOk.up {n m : Nat} {V : zS} {F : Int → zS → zR} (h : hOk n V F) (hm : n ≤ m) : hOk m V F := by
  obtain ⟨V2, d, c, g⟩ := h
  exact ⟨V2, d, ⟨by omega, by omega⟩, g⟩
theorem hOk.q {n e y : Nat} {as : List zV} {o : zO} {V V1 : zS} {F F' : Int → zS → zR} (hV : qHC V) (s : hS e y as o V V1) (d1 : hD V V1) (c1 : zc V1 = zc V ∧ zw V1 = zw V) (h : hOk n V1 F') (hF : ∀ a Z Z1, (zk Z a).1 = 32 → zDr e y (vr a :: as) Z = some (o, Z1) → F a Z = F' a Z1) : hOk n V F := by
  obtain ⟨V2, d, c, g⟩ := h
  refine ⟨V2, d1.tr d, ⟨by omega, by omega⟩, fun Z a b W hh => ?_⟩
  obtain ⟨Z1, r1, m1⟩ := s.m hh
  obtain ⟨Z2, r2, m2⟩ := g Z1 a b W m1.1
  exact ⟨Z2, by rw [hF a Z Z1 (by rw [hh.ka hV]) r1, r2], m1.tr m2⟩
theorem hOk.d {n e y : Nat} {as : List zV} {o : zO} {V V1 : zS} {F F' : Int → zS → zR} (hV : qHC V) (s : hSk e y as o V V1) (d1 : hD V V1) (c1 : zc V1 ≤ zc V + 1 ∧ zw V1 ≤ zw V + 6) (h : hOk n V1 F') (hF : ∀ a Z Z1, (zk Z a).1 = 32 → zDr e y (vr a :: as) Z = some (o, Z1) → F a Z = F' a Z1) : hOk (1 + n) V F := by
  obtain ⟨V2, d, c, g⟩ := h
  refine ⟨V2, d1.tr d, ⟨by omega, by omega⟩, fun Z a b W hh => ?_⟩
  obtain ⟨Z1, r1, m1⟩ := s Z a b W hh (hh.ka hV)
  obtain ⟨Z2, r2, m2⟩ := g Z1 a b W m1.1
  exact ⟨Z2, by rw [hF a Z Z1 (by rw [hh.ka hV]) r1, r2], m1.tr m2⟩
/-- what is told of a word -/
def wv (m : Int → Int → Int) (b j a : Int) : Int := if a = 0 then m (m (m 8 b + 1) j + 3) 1 else m (m (m 8 b + 1) j) a
/-- .. of a book -/
def bv (m : Int → Int → Int) (b a : Int) : Int := if a = 0 then m 54 b else m (m 8 b) (8 + a)
/-- a cell -/
def cv (m : Int → Int → Int) (b p l c : Int) : Int := m (m 8 b + 2) ((p * m 52 b + l) * m 51 b + c)
theorem p_133 (e : Nat) (he : 20 ≤ e) {V : zS} (hV : qHC V) {b j a : Int} (c1 : 0 ≤ b ∧ b < zm V 37 16) (c2 : 0 ≤ j ∧ j < zm V 54 b) (ha : a = 0 ∨ a = 2 ∨ a = 3 ∨ a = 4 ∨ a = 5 ∨ a = 6) : hS e 133 [vi b, vi j, vi a] (.inl (some (vi (wv (zm V) b j a)))) V V := by
  obtain ⟨f, rfl, hf⟩ := qd (show 14 + 1 ≤ e by omega)
  refine (h_pure (as := [vi b, vi j, vi a]) (by rfl) (by rfl) trivial (o := .inl (some (vi (wv (zm V) b j a)))) trivial ?_).2
  rcases ha with rfl | rfl | rfl | rfl | rfl | rfl
  · exact c_133_0 f V b j _ (by omega) hV c1 c2 rfl
  · exact c_133_2 f V b j _ (by omega) hV c1 c2 rfl
  · exact c_133_3 f V b j _ (by omega) hV c1 c2 rfl
  · exact c_133_4 f V b j _ (by omega) hV c1 c2 rfl
  · exact c_133_5 f V b j _ (by omega) hV c1 c2 rfl
  · exact c_133_6 f V b j _ (by omega) hV c1 c2 rfl
theorem p_134 (e : Nat) (he : 20 ≤ e) {V : zS} (hV : qHC V) {b a : Int} (c1 : 0 ≤ b ∧ b < zm V 37 16) (ha : 0 ≤ a ∧ a ≤ 4) : hS e 134 [vi b, vi a] (.inl (some (vi (bv (zm V) b a)))) V V := by
  obtain ⟨f, rfl, hf⟩ := qd (show 16 + 1 ≤ e by omega)
  refine (h_pure (as := [vi b, vi a]) (by rfl) (by rfl) trivial (o := .inl (some (vi (bv (zm V) b a)))) trivial ?_).2
  have ha : a = 0 ∨ a = 1 ∨ a = 2 ∨ a = 3 ∨ a = 4 := by omega
  rcases ha with rfl | rfl | rfl | rfl | rfl
  · exact c_134_0 f V b (by omega) hV c1
  · exact c_134_1 f V b (by omega) hV c1
  · exact c_134_2 f V b (by omega) hV c1
  · exact c_134_3 f V b (by omega) hV c1
  · exact c_134_4 f V b (by omega) hV c1
theorem p_135 (e : Nat) (he : 20 ≤ e) {V : zS} (hV : qHC V) {b p l c : Int} (c1 : 0 ≤ b ∧ b < zm V 37 16) (c2 : (0 ≤ p ∧ p < bv (zm V) b 1) ∧ (0 ≤ l ∧ l < zm V 52 b) ∧ (0 ≤ c ∧ c < zm V 51 b)) : hS e 135 [vi b, vi p, vi l, vi c] (.inl (some (vi (cv (zm V) b p l c)))) V V := by
  obtain ⟨f, rfl, hf⟩ := qd (show 14 + 1 ≤ e by omega)
  exact (h_pure (as := [vi b, vi p, vi l, vi c]) (by rfl) (by rfl) trivial (o := .inl (some (vi (cv (zm V) b p l c)))) trivial (c_135 f V b p l c (by omega) hV c1 c2)).2
theorem n_135 (e : Nat) (he : 20 ≤ e) {V : zS} (hV : qHC V) {b p l c : Int} (c1 : 0 ≤ b ∧ b < zm V 37 16) (c2 : ¬ ((0 ≤ p ∧ p < bv (zm V) b 1) ∧ (0 ≤ l ∧ l < zm V 52 b) ∧ (0 ≤ c ∧ c < zm V 51 b))) : hS e 135 [vi b, vi p, vi l, vi c] (.inr 2) V (zbump V) := by
  obtain ⟨f, rfl, hf⟩ := qd (show 14 + 1 ≤ e by omega)
  exact (h_pure (as := [vi b, vi p, vi l, vi c]) (by rfl) (by rfl) trivial (o := .inr 2) trivial (c_135_n f V b p l c (by omega) hV c1 c2)).2
/-! How many dots a cell has. -/
theorem bits_lp (d : Nat) (Z : zS) : ∀ (f r : Nat) (m : Int) (x0 : zV), f ≤ 6 → r < 2 ^ f → 0 ≤ m → m + f ≤ 100 → zF_351 d 4 [x0, vi m, vi (r : Int)] [] Z = some (.inl (some (vi (m + (qpc f r : Nat)))), Z)
  | 0, r, m, x0, hf, hr, m0, m1 => by
    obtain rfl : r = 0 := by have : (2 : Nat) ^ 0 = 1 := rfl; omega
    rw [b351_4, if_neg (by decide), b351_21, show qpc 0 0 = 0 from rfl, Int.natCast_zero, Int.add_zero]
  | f + 1, r, m, x0, hf, hr, m0, m1 => by
    by_cases c : r = 0
    · subst c
      rw [b351_4, if_neg (by decide), b351_21, qpc_0, Int.natCast_zero, Int.add_zero]
    · have k : ∀ n : Nat, n < 64 → zand (n : Int) 1 = ((n % 2 : Nat) : Int) ∧ zshr (n : Int) 1 = ((n / 2 : Nat) : Int) := by decide +kernel
      have p6 : (2 : Nat) ^ (f + 1) ≤ 2 ^ 6 := Nat.pow_le_pow_right (by decide) hf
      have p66 : (2 : Nat) ^ 6 = 64 := rfl
      obtain ⟨k1, k2⟩ := k r (by omega)
      have h2 : r / 2 < 2 ^ f := by rw [Nat.pow_succ] at hr; omega
      rw [b351_4, if_pos (by omega), b351_8, k1, k2, q32 (by omega), b351_18, bits_lp d Z f (r / 2) (m + ((r % 2 : Nat) : Int)) vu (by omega) h2 (by omega) (by omega), qpc, show m + ((r % 2 : Nat) : Int) + ((qpc f (r / 2) : Nat) : Int) = m + ((r % 2 + qpc f (r / 2) : Nat) : Int) by omega]
theorem l_bits (d : Nat) (v : Int) (hv : 0 ≤ v ∧ v < 64) (Z : zS) : zDr (d + 1) 351 [vi v] Z = some (.inl (some (vi (qpi v))), Z) := by
  have k : ∀ n : Nat, n < 64 → qpc 24 n = qpc 6 n := by decide +kernel
  have h := bits_lp d Z 6 v.toNat 0 (vi v) (Nat.le_refl _) (by have : (2 : Nat) ^ 6 = 64 := rfl; omega) (Int.le_refl _) (by decide)
  rw [show ((v.toNat : Nat) : Int) = v by omega, Int.zero_add] at h
  rw [zDr_351, b351_0, h]
  unfold qpi
  rw [k v.toNat (by omega)]
