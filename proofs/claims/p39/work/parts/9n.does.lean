/-! The law's two doors to a house: numbers, and -9999999 for what is thrown. -/
def res : zO → Int
  | .inl (some (.inl v)) => v
  | .inl (some (.inr (.inl v))) => v
  | .inl _ => 0
  | .inr _ => -9999999
def aX (o : zO) : Prop := ∃ x : Nat, o = .inr x ∧ (x = 0 ∨ x = 1 ∨ x = 2)
def aInt (o : zO) : Prop := (∃ v, o = .inl (some (vi v))) ∨ aX o
def aLng (o : zO) : Prop := (∃ v, o = .inl (some (vl v))) ∨ aX o
def aBol (o : zO) : Prop := (∃ v, (v = 0 ∨ v = 1) ∧ o = .inl (some (vi v))) ∨ aX o
theorem aBol_I {o : zO} (h : aBol o) : aInt o := by
  rcases h with ⟨v, -, rfl⟩ | h
  · exact Or.inl ⟨v, rfl⟩
  · exact Or.inr h
/-- a call of a house's kind -/
def hSk (d y : Nat) (as : List zV) (o : zO) (V V2 : zS) : Prop := ∀ Z a b W, hH a b Z V W → zk Z a = (32, 0) → ∃ Z1, zDr d y (vr a :: as) Z = some (o, Z1) ∧ hM a b W V V2 Z Z1
theorem hSk.s {d y : Nat} {as : List zV} {o : zO} {V V2 : zS} (h : hSk d y as o V V2) (hV : qHC V) : hS d y as o V V2 := fun Z a b W hh => h Z a b W hh (hh.ka hV)
theorem aInt_O {o : zO} (h : aInt o) : hO o := by
  rcases h with ⟨v, rfl⟩ | ⟨x, rfl, -⟩ <;> exact trivial
theorem aLng_O {o : zO} (h : aLng o) : hO o := by
  rcases h with ⟨v, rfl⟩ | ⟨x, rfl, -⟩ <;> exact trivial
theorem l_d4 (e : Nat) (a2 a3 a4 a5 : Int) {V V2 : zS} {o : zO} (ho : aInt o) (s : hS e 119 [vi a2, vi (Int.tmod a3 10), vi (z32 (Int.tdiv a3 10)), vi (z32 ((Int.tmod a4 1000) - 500)), vi (z32 (Int.tdiv a4 1000))] o V V2) : hSk (e + 1) 344 [vi 4, vi a2, vi a3, vi a4, vl a5] (.inl (some (vi (res o)))) V V2 := fun Z a b W hh hk0 => by
  obtain ⟨Z1, r, q⟩ := s Z a b W hh
  have hk : (zk Z a).1 = 32 := by rw [hk0]
  refine ⟨Z1, ?_, q⟩
  rw [zDr_344, b344_0, if_neg (by decide), b344_15, if_neg (by decide), b344_27, if_neg (by decide), b344_39, if_neg (by decide), b344_51, if_pos (by decide), b344_56, zchk_pos (by decide), zchk_pos (by decide), b344_71, zchk_pos (by decide), zchk_pos (by decide), zchk_pos hk, r]
  rcases ho with ⟨v, rfl⟩ | ⟨x, rfl, hx⟩
  · rw [qcall_l, qJ_s, b344_85, b344_280]
    rfl
  · rw [qcall_r]
    rcases hx with rfl | rfl | rfl
    · exact b344_286 e _ _ _ _ _ _ _ _ Z1
    · exact b344_291 e _ _ _ _ _ _ _ _ Z1
    · exact b344_281 e _ _ _ _ _ _ _ _ Z1
theorem l_d5 (e : Nat) (a2 a3 a4 a5 : Int) {V V2 : zS} {o : zO} (ho : aInt o) (s : hS e 120 [] o V V2) : hSk (e + 1) 344 [vi 5, vi a2, vi a3, vi a4, vl a5] (.inl (some (vi (res o)))) V V2 := fun Z a b W hh hk0 => by
  obtain ⟨Z1, r, q⟩ := s Z a b W hh
  have hk : (zk Z a).1 = 32 := by rw [hk0]
  refine ⟨Z1, ?_, q⟩
  rw [zDr_344, b344_0, if_neg (by decide), b344_15, if_neg (by decide), b344_27, if_neg (by decide), b344_39, if_neg (by decide), b344_51, if_neg (by decide), b344_88, if_pos (by decide), b344_93, zchk_pos hk, r]
  rcases ho with ⟨v, rfl⟩ | ⟨x, rfl, hx⟩
  · rw [qcall_l, qJ_s, b344_97, b344_280]
    rfl
  · rw [qcall_r]
    rcases hx with rfl | rfl | rfl
    · exact b344_286 e _ _ _ _ _ _ _ _ Z1
    · exact b344_291 e _ _ _ _ _ _ _ _ Z1
    · exact b344_281 e _ _ _ _ _ _ _ _ Z1
theorem l_d6 (e : Nat) (a2 a3 a4 a5 : Int) {V V2 : zS} {o : zO} (ho : aInt o) (s : hS e 121 [vi a2, vi a3] o V V2) : hSk (e + 1) 344 [vi 6, vi a2, vi a3, vi a4, vl a5] (.inl (some (vi (res o)))) V V2 := fun Z a b W hh hk0 => by
  obtain ⟨Z1, r, q⟩ := s Z a b W hh
  have hk : (zk Z a).1 = 32 := by rw [hk0]
  refine ⟨Z1, ?_, q⟩
  rw [zDr_344, b344_0, if_neg (by decide), b344_15, if_neg (by decide), b344_27, if_neg (by decide), b344_39, if_neg (by decide), b344_51, if_neg (by decide), b344_88, if_neg (by decide), b344_100, if_pos (by decide), b344_106, zchk_pos hk, r]
  rcases ho with ⟨v, rfl⟩ | ⟨x, rfl, hx⟩
  · rw [qcall_l, qJ_s, b344_112, b344_280]
    rfl
  · rw [qcall_r]
    rcases hx with rfl | rfl | rfl
    · exact b344_286 e _ _ _ _ _ _ _ _ Z1
    · exact b344_291 e _ _ _ _ _ _ _ _ Z1
    · exact b344_281 e _ _ _ _ _ _ _ _ Z1
theorem l_d11 (e : Nat) (a2 a3 a4 a5 : Int) {V V2 : zS} {o : zO} (ho : aInt o) (s : hS e 128 [vi a2] o V V2) : hSk (e + 1) 344 [vi 11, vi a2, vi a3, vi a4, vl a5] (.inl (some (vi (res o)))) V V2 := fun Z a b W hh hk0 => by
  obtain ⟨Z1, r, q⟩ := s Z a b W hh
  have hk : (zk Z a).1 = 32 := by rw [hk0]
  refine ⟨Z1, ?_, q⟩
  rw [zDr_344, b344_0, if_neg (by decide), b344_15, if_neg (by decide), b344_27, if_neg (by decide), b344_39, if_neg (by decide), b344_51, if_neg (by decide), b344_88, if_neg (by decide), b344_100, if_neg (by decide), b344_115, if_neg (by decide), b344_132, if_neg (by decide), b344_155, if_neg (by decide), b344_170, if_neg (by decide), b344_183, if_pos (by decide), b344_189, zchk_pos hk, r]
  rcases ho with ⟨v, rfl⟩ | ⟨x, rfl, hx⟩
  · rw [qcall_l, qJ_s, b344_194, b344_280]
    rfl
  · rw [qcall_r]
    rcases hx with rfl | rfl | rfl
    · exact b344_286 e _ _ _ _ _ _ _ _ Z1
    · exact b344_291 e _ _ _ _ _ _ _ _ Z1
    · exact b344_281 e _ _ _ _ _ _ _ _ Z1
theorem l_d13 (e : Nat) (a2 a3 a4 a5 : Int) {V V2 : zS} {o : zO} (ho : aBol o) (s : hS e 130 [vi a2] o V V2) : hSk (e + 1) 344 [vi 13, vi a2, vi a3, vi a4, vl a5] (.inl (some (vi (res o)))) V V2 := fun Z a b W hh hk0 => by
  obtain ⟨Z1, r, q⟩ := s Z a b W hh
  have hk : (zk Z a).1 = 32 := by rw [hk0]
  refine ⟨Z1, ?_, q⟩
  rw [zDr_344, b344_0, if_neg (by decide), b344_15, if_neg (by decide), b344_27, if_neg (by decide), b344_39, if_neg (by decide), b344_51, if_neg (by decide), b344_88, if_neg (by decide), b344_100, if_neg (by decide), b344_115, if_neg (by decide), b344_132, if_neg (by decide), b344_155, if_neg (by decide), b344_170, if_neg (by decide), b344_183, if_neg (by decide), b344_197, if_neg (by decide), b344_212, if_pos (by decide), b344_218, zchk_pos hk, r]
  rcases ho with ⟨v, hv, rfl⟩ | ⟨x, rfl, hx⟩
  · rw [qcall_l, qJ_s, b344_223]
    rcases hv with rfl | rfl
    · rw [if_pos rfl, b344_230, b344_280]
      rfl
    · rw [if_neg (by decide), b344_226, b344_280]
      rfl
  · rw [qcall_r]
    rcases hx with rfl | rfl | rfl
    · exact b344_286 e _ _ _ _ _ _ _ _ Z1
    · exact b344_291 e _ _ _ _ _ _ _ _ Z1
    · exact b344_281 e _ _ _ _ _ _ _ _ Z1
theorem l_d15 (e : Nat) (a2 a3 a4 a5 : Int) {V V2 : zS} {o : zO} (ho : aInt o) (s : hS e 132 [vi a2] o V V2) : hSk (e + 1) 344 [vi 15, vi a2, vi a3, vi a4, vl a5] (.inl (some (vi (res o)))) V V2 := fun Z a b W hh hk0 => by
  obtain ⟨Z1, r, q⟩ := s Z a b W hh
  have hk : (zk Z a).1 = 32 := by rw [hk0]
  refine ⟨Z1, ?_, q⟩
  rw [zDr_344, b344_0, if_neg (by decide), b344_15, if_neg (by decide), b344_27, if_neg (by decide), b344_39, if_neg (by decide), b344_51, if_neg (by decide), b344_88, if_neg (by decide), b344_100, if_neg (by decide), b344_115, if_neg (by decide), b344_132, if_neg (by decide), b344_155, if_neg (by decide), b344_170, if_neg (by decide), b344_183, if_neg (by decide), b344_197, if_neg (by decide), b344_212, if_neg (by decide), b344_234, if_neg (by decide), b344_275, zchk_pos hk, r]
  rcases ho with ⟨v, rfl⟩ | ⟨x, rfl, hx⟩
  · rw [qcall_l, qJ_s, b344_280]
    rfl
  · rw [qcall_r]
    rcases hx with rfl | rfl | rfl
    · exact b344_286 e _ _ _ _ _ _ _ _ Z1
    · exact b344_291 e _ _ _ _ _ _ _ _ Z1
    · exact b344_281 e _ _ _ _ _ _ _ _ Z1
theorem l_t0 (e : Nat) (a2 a3 a4 : Int) {V V2 : zS} {o : zO} (ho : aInt o) (s : hS e 133 [vi a2, vi a3, vi a4] o V V2) : hSk (e + 1) 345 [vi 0, vi a2, vi a3, vi a4] (.inl (some (vl (res o)))) V V2 := fun Z a b W hh hk0 => by
  obtain ⟨Z1, r, q⟩ := s Z a b W hh
  have hk : (zk Z a).1 = 32 := by rw [hk0]
  refine ⟨Z1, ?_, q⟩
  rw [zDr_345, b345_0, if_pos (by decide), b345_4, zchk_pos hk, r]
  rcases ho with ⟨v, rfl⟩ | ⟨x, rfl, hx⟩
  · rw [qcall_l, qJ_s, b345_12, b345_333]
    rfl
  · rw [qcall_r]
    rcases hx with rfl | rfl | rfl
    · exact b345_340 e _ _ _ _ _ _ Z1
    · exact b345_346 e _ _ _ _ _ _ Z1
    · exact b345_334 e _ _ _ _ _ _ Z1
theorem l_t1 (e : Nat) (a2 a3 a4 : Int) {V V2 : zS} {o : zO} (ho : aInt o) (s : hS e 134 [vi a2, vi a3] o V V2) : hSk (e + 1) 345 [vi 1, vi a2, vi a3, vi a4] (.inl (some (vl (res o)))) V V2 := fun Z a b W hh hk0 => by
  obtain ⟨Z1, r, q⟩ := s Z a b W hh
  have hk : (zk Z a).1 = 32 := by rw [hk0]
  refine ⟨Z1, ?_, q⟩
  rw [zDr_345, b345_0, if_neg (by decide), b345_16, if_pos (by decide), b345_21, zchk_pos hk, r]
  rcases ho with ⟨v, rfl⟩ | ⟨x, rfl, hx⟩
  · rw [qcall_l, qJ_s, b345_27, b345_333]
    rfl
  · rw [qcall_r]
    rcases hx with rfl | rfl | rfl
    · exact b345_340 e _ _ _ _ _ _ Z1
    · exact b345_346 e _ _ _ _ _ _ Z1
    · exact b345_334 e _ _ _ _ _ _ Z1
theorem l_t2 (e : Nat) (a2 a3 a4 : Int) {V V2 : zS} {o : zO} (ho : aInt o) (s : hS e 135 [vi a2, vi (z32 (Int.tdiv a3 10000)), vi (Int.tmod (z32 (Int.tdiv a3 100)) 100), vi (Int.tmod a3 100)] o V V2) : hSk (e + 1) 345 [vi 2, vi a2, vi a3, vi a4] (.inl (some (vl (res o)))) V V2 := fun Z a b W hh hk0 => by
  obtain ⟨Z1, r, q⟩ := s Z a b W hh
  have hk : (zk Z a).1 = 32 := by rw [hk0]
  refine ⟨Z1, ?_, q⟩
  rw [zDr_345, b345_0, if_neg (by decide), b345_16, if_neg (by decide), b345_31, if_pos (by decide), b345_36, zchk_pos (by decide), zchk_pos (by decide), zchk_pos (by decide), b345_50, zchk_pos (by decide), zchk_pos hk, r]
  rcases ho with ⟨v, rfl⟩ | ⟨x, rfl, hx⟩
  · rw [qcall_l, qJ_s, b345_57, b345_333]
    rfl
  · rw [qcall_r]
    rcases hx with rfl | rfl | rfl
    · exact b345_340 e _ _ _ _ _ _ Z1
    · exact b345_346 e _ _ _ _ _ _ Z1
    · exact b345_334 e _ _ _ _ _ _ Z1
theorem l_t3 (e : Nat) (a2 a3 a4 : Int) {V V2 : zS} {o : zO} (ho : aInt o) (s : hS e 136 [vi a2, vi a3, vi a4] o V V2) : hSk (e + 1) 345 [vi 3, vi a2, vi a3, vi a4] (.inl (some (vl (res o)))) V V2 := fun Z a b W hh hk0 => by
  obtain ⟨Z1, r, q⟩ := s Z a b W hh
  have hk : (zk Z a).1 = 32 := by rw [hk0]
  refine ⟨Z1, ?_, q⟩
  rw [zDr_345, b345_0, if_neg (by decide), b345_16, if_neg (by decide), b345_31, if_neg (by decide), b345_61, if_pos (by decide), b345_66, zchk_pos hk, r]
  rcases ho with ⟨v, rfl⟩ | ⟨x, rfl, hx⟩
  · rw [qcall_l, qJ_s, b345_74, b345_333]
    rfl
  · rw [qcall_r]
    rcases hx with rfl | rfl | rfl
    · exact b345_340 e _ _ _ _ _ _ Z1
    · exact b345_346 e _ _ _ _ _ _ Z1
    · exact b345_334 e _ _ _ _ _ _ Z1
theorem l_t4 (e : Nat) (a2 a3 a4 : Int) {V V2 : zS} {o : zO} (ho : aInt o) (s : hS e 137 [vi a2, vi a3] o V V2) : hSk (e + 1) 345 [vi 4, vi a2, vi a3, vi a4] (.inl (some (vl (res o)))) V V2 := fun Z a b W hh hk0 => by
  obtain ⟨Z1, r, q⟩ := s Z a b W hh
  have hk : (zk Z a).1 = 32 := by rw [hk0]
  refine ⟨Z1, ?_, q⟩
  rw [zDr_345, b345_0, if_neg (by decide), b345_16, if_neg (by decide), b345_31, if_neg (by decide), b345_61, if_neg (by decide), b345_78, if_pos (by decide), b345_83, zchk_pos hk, r]
  rcases ho with ⟨v, rfl⟩ | ⟨x, rfl, hx⟩
  · rw [qcall_l, qJ_s, b345_89, b345_333]
    rfl
  · rw [qcall_r]
    rcases hx with rfl | rfl | rfl
    · exact b345_340 e _ _ _ _ _ _ Z1
    · exact b345_346 e _ _ _ _ _ _ Z1
    · exact b345_334 e _ _ _ _ _ _ Z1
theorem l_t5 (e : Nat) (a2 a3 a4 : Int) {V V2 : zS} {o : zO} (ho : aInt o) (s : hS e 138 [vi a2, vi (z32 (Int.tdiv a3 10000)), vi (Int.tmod (z32 (Int.tdiv a3 100)) 100), vi (Int.tmod a3 100)] o V V2) : hSk (e + 1) 345 [vi 5, vi a2, vi a3, vi a4] (.inl (some (vl (res o)))) V V2 := fun Z a b W hh hk0 => by
  obtain ⟨Z1, r, q⟩ := s Z a b W hh
  have hk : (zk Z a).1 = 32 := by rw [hk0]
  refine ⟨Z1, ?_, q⟩
  rw [zDr_345, b345_0, if_neg (by decide), b345_16, if_neg (by decide), b345_31, if_neg (by decide), b345_61, if_neg (by decide), b345_78, if_neg (by decide), b345_93, if_pos (by decide), b345_98, zchk_pos (by decide), zchk_pos (by decide), zchk_pos (by decide), b345_112, zchk_pos (by decide), zchk_pos hk, r]
  rcases ho with ⟨v, rfl⟩ | ⟨x, rfl, hx⟩
  · rw [qcall_l, qJ_s, b345_119, b345_333]
    rfl
  · rw [qcall_r]
    rcases hx with rfl | rfl | rfl
    · exact b345_340 e _ _ _ _ _ _ Z1
    · exact b345_346 e _ _ _ _ _ _ Z1
    · exact b345_334 e _ _ _ _ _ _ Z1
theorem l_t6 (e : Nat) (a2 a3 a4 : Int) {V V2 : zS} {o : zO} (ho : aInt o) (s : hS e 139 [vi a2, vi a3] o V V2) : hSk (e + 1) 345 [vi 6, vi a2, vi a3, vi a4] (.inl (some (vl (res o)))) V V2 := fun Z a b W hh hk0 => by
  obtain ⟨Z1, r, q⟩ := s Z a b W hh
  have hk : (zk Z a).1 = 32 := by rw [hk0]
  refine ⟨Z1, ?_, q⟩
  rw [zDr_345, b345_0, if_neg (by decide), b345_16, if_neg (by decide), b345_31, if_neg (by decide), b345_61, if_neg (by decide), b345_78, if_neg (by decide), b345_93, if_neg (by decide), b345_123, if_pos (by decide), b345_129, zchk_pos hk, r]
  rcases ho with ⟨v, rfl⟩ | ⟨x, rfl, hx⟩
  · rw [qcall_l, qJ_s, b345_135, b345_333]
    rfl
  · rw [qcall_r]
    rcases hx with rfl | rfl | rfl
    · exact b345_340 e _ _ _ _ _ _ Z1
    · exact b345_346 e _ _ _ _ _ _ Z1
    · exact b345_334 e _ _ _ _ _ _ Z1
theorem l_t7 (e : Nat) (a2 a3 a4 : Int) {V V2 : zS} {o : zO} (ho : aInt o) (s : hS e 141 [vi a2] o V V2) : hSk (e + 1) 345 [vi 7, vi a2, vi a3, vi a4] (.inl (some (vl (res o)))) V V2 := fun Z a b W hh hk0 => by
  obtain ⟨Z1, r, q⟩ := s Z a b W hh
  have hk : (zk Z a).1 = 32 := by rw [hk0]
  refine ⟨Z1, ?_, q⟩
  rw [zDr_345, b345_0, if_neg (by decide), b345_16, if_neg (by decide), b345_31, if_neg (by decide), b345_61, if_neg (by decide), b345_78, if_neg (by decide), b345_93, if_neg (by decide), b345_123, if_neg (by decide), b345_139, if_pos (by decide), b345_145, zchk_pos hk, r]
  rcases ho with ⟨v, rfl⟩ | ⟨x, rfl, hx⟩
  · rw [qcall_l, qJ_s, b345_150, b345_333]
    rfl
  · rw [qcall_r]
    rcases hx with rfl | rfl | rfl
    · exact b345_340 e _ _ _ _ _ _ Z1
    · exact b345_346 e _ _ _ _ _ _ Z1
    · exact b345_334 e _ _ _ _ _ _ Z1
theorem l_t8 (e : Nat) (a2 a3 a4 : Int) {V V2 : zS} {o : zO} (ho : aInt o) (s : hS e 142 [vi a2, vi a3, vi a4] o V V2) : hSk (e + 1) 345 [vi 8, vi a2, vi a3, vi a4] (.inl (some (vl (res o)))) V V2 := fun Z a b W hh hk0 => by
  obtain ⟨Z1, r, q⟩ := s Z a b W hh
  have hk : (zk Z a).1 = 32 := by rw [hk0]
  refine ⟨Z1, ?_, q⟩
  rw [zDr_345, b345_0, if_neg (by decide), b345_16, if_neg (by decide), b345_31, if_neg (by decide), b345_61, if_neg (by decide), b345_78, if_neg (by decide), b345_93, if_neg (by decide), b345_123, if_neg (by decide), b345_139, if_neg (by decide), b345_154, if_pos (by decide), b345_160, zchk_pos hk, r]
  rcases ho with ⟨v, rfl⟩ | ⟨x, rfl, hx⟩
  · rw [qcall_l, qJ_s, b345_168, b345_333]
    rfl
  · rw [qcall_r]
    rcases hx with rfl | rfl | rfl
    · exact b345_340 e _ _ _ _ _ _ Z1
    · exact b345_346 e _ _ _ _ _ _ Z1
    · exact b345_334 e _ _ _ _ _ _ Z1
theorem l_t9 (e : Nat) (a2 a3 a4 : Int) {V V2 : zS} {o : zO} (ho : aInt o) (s : hS e 143 [vi a2, vi a3] o V V2) : hSk (e + 1) 345 [vi 9, vi a2, vi a3, vi a4] (.inl (some (vl (res o)))) V V2 := fun Z a b W hh hk0 => by
  obtain ⟨Z1, r, q⟩ := s Z a b W hh
  have hk : (zk Z a).1 = 32 := by rw [hk0]
  refine ⟨Z1, ?_, q⟩
  rw [zDr_345, b345_0, if_neg (by decide), b345_16, if_neg (by decide), b345_31, if_neg (by decide), b345_61, if_neg (by decide), b345_78, if_neg (by decide), b345_93, if_neg (by decide), b345_123, if_neg (by decide), b345_139, if_neg (by decide), b345_154, if_neg (by decide), b345_172, if_pos (by decide), b345_178, zchk_pos hk, r]
  rcases ho with ⟨v, rfl⟩ | ⟨x, rfl, hx⟩
  · rw [qcall_l, qJ_s, b345_184, b345_333]
    rfl
  · rw [qcall_r]
    rcases hx with rfl | rfl | rfl
    · exact b345_340 e _ _ _ _ _ _ Z1
    · exact b345_346 e _ _ _ _ _ _ Z1
    · exact b345_334 e _ _ _ _ _ _ Z1
theorem l_t10 (e : Nat) (a2 a3 a4 : Int) {V V2 : zS} {o : zO} (ho : aInt o) (s : hS e 144 [vi a2, vi a3] o V V2) : hSk (e + 1) 345 [vi 10, vi a2, vi a3, vi a4] (.inl (some (vl (res o)))) V V2 := fun Z a b W hh hk0 => by
  obtain ⟨Z1, r, q⟩ := s Z a b W hh
  have hk : (zk Z a).1 = 32 := by rw [hk0]
  refine ⟨Z1, ?_, q⟩
  rw [zDr_345, b345_0, if_neg (by decide), b345_16, if_neg (by decide), b345_31, if_neg (by decide), b345_61, if_neg (by decide), b345_78, if_neg (by decide), b345_93, if_neg (by decide), b345_123, if_neg (by decide), b345_139, if_neg (by decide), b345_154, if_neg (by decide), b345_172, if_neg (by decide), b345_188, if_pos (by decide), b345_194, zchk_pos hk, r]
  rcases ho with ⟨v, rfl⟩ | ⟨x, rfl, hx⟩
  · rw [qcall_l, qJ_s, b345_200, b345_333]
    rfl
  · rw [qcall_r]
    rcases hx with rfl | rfl | rfl
    · exact b345_340 e _ _ _ _ _ _ Z1
    · exact b345_346 e _ _ _ _ _ _ Z1
    · exact b345_334 e _ _ _ _ _ _ Z1
theorem l_t11 (e : Nat) (a2 a3 a4 : Int) {V V2 : zS} {o : zO} (ho : aInt o) (s : hS e 145 [vi a2, vi a3, vi a4] o V V2) : hSk (e + 1) 345 [vi 11, vi a2, vi a3, vi a4] (.inl (some (vl (res o)))) V V2 := fun Z a b W hh hk0 => by
  obtain ⟨Z1, r, q⟩ := s Z a b W hh
  have hk : (zk Z a).1 = 32 := by rw [hk0]
  refine ⟨Z1, ?_, q⟩
  rw [zDr_345, b345_0, if_neg (by decide), b345_16, if_neg (by decide), b345_31, if_neg (by decide), b345_61, if_neg (by decide), b345_78, if_neg (by decide), b345_93, if_neg (by decide), b345_123, if_neg (by decide), b345_139, if_neg (by decide), b345_154, if_neg (by decide), b345_172, if_neg (by decide), b345_188, if_neg (by decide), b345_204, if_pos (by decide), b345_210, zchk_pos hk, r]
  rcases ho with ⟨v, rfl⟩ | ⟨x, rfl, hx⟩
  · rw [qcall_l, qJ_s, b345_218, b345_333]
    rfl
  · rw [qcall_r]
    rcases hx with rfl | rfl | rfl
    · exact b345_340 e _ _ _ _ _ _ Z1
    · exact b345_346 e _ _ _ _ _ _ Z1
    · exact b345_334 e _ _ _ _ _ _ Z1
theorem l_t12 (e : Nat) (a2 a3 a4 : Int) {V V2 : zS} {o : zO} (ho : aInt o) (s : hS e 146 [vi a2] o V V2) : hSk (e + 1) 345 [vi 12, vi a2, vi a3, vi a4] (.inl (some (vl (res o)))) V V2 := fun Z a b W hh hk0 => by
  obtain ⟨Z1, r, q⟩ := s Z a b W hh
  have hk : (zk Z a).1 = 32 := by rw [hk0]
  refine ⟨Z1, ?_, q⟩
  rw [zDr_345, b345_0, if_neg (by decide), b345_16, if_neg (by decide), b345_31, if_neg (by decide), b345_61, if_neg (by decide), b345_78, if_neg (by decide), b345_93, if_neg (by decide), b345_123, if_neg (by decide), b345_139, if_neg (by decide), b345_154, if_neg (by decide), b345_172, if_neg (by decide), b345_188, if_neg (by decide), b345_204, if_neg (by decide), b345_222, if_pos (by decide), b345_228, zchk_pos hk, r]
  rcases ho with ⟨v, rfl⟩ | ⟨x, rfl, hx⟩
  · rw [qcall_l, qJ_s, b345_233, b345_333]
    rfl
  · rw [qcall_r]
    rcases hx with rfl | rfl | rfl
    · exact b345_340 e _ _ _ _ _ _ Z1
    · exact b345_346 e _ _ _ _ _ _ Z1
    · exact b345_334 e _ _ _ _ _ _ Z1
theorem l_t13 (e : Nat) (a2 a3 a4 : Int) {V V2 : zS} {o : zO} (ho : aInt o) (s : hS e 148 [vi a2, vi a3] o V V2) : hSk (e + 1) 345 [vi 13, vi a2, vi a3, vi a4] (.inl (some (vl (res o)))) V V2 := fun Z a b W hh hk0 => by
  obtain ⟨Z1, r, q⟩ := s Z a b W hh
  have hk : (zk Z a).1 = 32 := by rw [hk0]
  refine ⟨Z1, ?_, q⟩
  rw [zDr_345, b345_0, if_neg (by decide), b345_16, if_neg (by decide), b345_31, if_neg (by decide), b345_61, if_neg (by decide), b345_78, if_neg (by decide), b345_93, if_neg (by decide), b345_123, if_neg (by decide), b345_139, if_neg (by decide), b345_154, if_neg (by decide), b345_172, if_neg (by decide), b345_188, if_neg (by decide), b345_204, if_neg (by decide), b345_222, if_neg (by decide), b345_237, if_pos (by decide), b345_243, zchk_pos hk, r]
  rcases ho with ⟨v, rfl⟩ | ⟨x, rfl, hx⟩
  · rw [qcall_l, qJ_s, b345_249, b345_333]
    rfl
  · rw [qcall_r]
    rcases hx with rfl | rfl | rfl
    · exact b345_340 e _ _ _ _ _ _ Z1
    · exact b345_346 e _ _ _ _ _ _ Z1
    · exact b345_334 e _ _ _ _ _ _ Z1
theorem l_t14 (e : Nat) (a2 a3 a4 : Int) {V V2 : zS} {o : zO} (ho : aInt o) (s : hS e 149 [vi a2, vi a3] o V V2) : hSk (e + 1) 345 [vi 14, vi a2, vi a3, vi a4] (.inl (some (vl (res o)))) V V2 := fun Z a b W hh hk0 => by
  obtain ⟨Z1, r, q⟩ := s Z a b W hh
  have hk : (zk Z a).1 = 32 := by rw [hk0]
  refine ⟨Z1, ?_, q⟩
  rw [zDr_345, b345_0, if_neg (by decide), b345_16, if_neg (by decide), b345_31, if_neg (by decide), b345_61, if_neg (by decide), b345_78, if_neg (by decide), b345_93, if_neg (by decide), b345_123, if_neg (by decide), b345_139, if_neg (by decide), b345_154, if_neg (by decide), b345_172, if_neg (by decide), b345_188, if_neg (by decide), b345_204, if_neg (by decide), b345_222, if_neg (by decide), b345_237, if_neg (by decide), b345_253, if_pos (by decide), b345_259, zchk_pos hk, r]
  rcases ho with ⟨v, rfl⟩ | ⟨x, rfl, hx⟩
  · rw [qcall_l, qJ_s, b345_265, b345_333]
    rfl
  · rw [qcall_r]
    rcases hx with rfl | rfl | rfl
    · exact b345_340 e _ _ _ _ _ _ Z1
    · exact b345_346 e _ _ _ _ _ _ Z1
    · exact b345_334 e _ _ _ _ _ _ Z1
theorem l_t15 (e : Nat) (a2 a3 a4 : Int) {V V2 : zS} {o : zO} (ho : aInt o) (s : hS e 150 [vi a2] o V V2) : hSk (e + 1) 345 [vi 15, vi a2, vi a3, vi a4] (.inl (some (vl (res o)))) V V2 := fun Z a b W hh hk0 => by
  obtain ⟨Z1, r, q⟩ := s Z a b W hh
  have hk : (zk Z a).1 = 32 := by rw [hk0]
  refine ⟨Z1, ?_, q⟩
  rw [zDr_345, b345_0, if_neg (by decide), b345_16, if_neg (by decide), b345_31, if_neg (by decide), b345_61, if_neg (by decide), b345_78, if_neg (by decide), b345_93, if_neg (by decide), b345_123, if_neg (by decide), b345_139, if_neg (by decide), b345_154, if_neg (by decide), b345_172, if_neg (by decide), b345_188, if_neg (by decide), b345_204, if_neg (by decide), b345_222, if_neg (by decide), b345_237, if_neg (by decide), b345_253, if_neg (by decide), b345_269, if_pos (by decide), b345_275, zchk_pos hk, r]
  rcases ho with ⟨v, rfl⟩ | ⟨x, rfl, hx⟩
  · rw [qcall_l, qJ_s, b345_280, b345_333]
    rfl
  · rw [qcall_r]
    rcases hx with rfl | rfl | rfl
    · exact b345_340 e _ _ _ _ _ _ Z1
    · exact b345_346 e _ _ _ _ _ _ Z1
    · exact b345_334 e _ _ _ _ _ _ Z1
theorem l_t16 (e : Nat) (a2 a3 a4 : Int) {V V2 : zS} {o : zO} (ho : aInt o) (s : hS e 140 [] o V V2) : hSk (e + 1) 345 [vi 16, vi a2, vi a3, vi a4] (.inl (some (vl (res o)))) V V2 := fun Z a b W hh hk0 => by
  obtain ⟨Z1, r, q⟩ := s Z a b W hh
  have hk : (zk Z a).1 = 32 := by rw [hk0]
  refine ⟨Z1, ?_, q⟩
  rw [zDr_345, b345_0, if_neg (by decide), b345_16, if_neg (by decide), b345_31, if_neg (by decide), b345_61, if_neg (by decide), b345_78, if_neg (by decide), b345_93, if_neg (by decide), b345_123, if_neg (by decide), b345_139, if_neg (by decide), b345_154, if_neg (by decide), b345_172, if_neg (by decide), b345_188, if_neg (by decide), b345_204, if_neg (by decide), b345_222, if_neg (by decide), b345_237, if_neg (by decide), b345_253, if_neg (by decide), b345_269, if_neg (by decide), b345_284, if_pos (by decide), b345_290, zchk_pos hk, r]
  rcases ho with ⟨v, rfl⟩ | ⟨x, rfl, hx⟩
  · rw [qcall_l, qJ_s, b345_294, b345_333]
    rfl
  · rw [qcall_r]
    rcases hx with rfl | rfl | rfl
    · exact b345_340 e _ _ _ _ _ _ Z1
    · exact b345_346 e _ _ _ _ _ _ Z1
    · exact b345_334 e _ _ _ _ _ _ Z1
theorem l_t17 (e : Nat) (a2 a3 a4 : Int) {V V2 : zS} {o : zO} (ho : aInt o) (s : hS e 147 [] o V V2) : hSk (e + 1) 345 [vi 17, vi a2, vi a3, vi a4] (.inl (some (vl (res o)))) V V2 := fun Z a b W hh hk0 => by
  obtain ⟨Z1, r, q⟩ := s Z a b W hh
  have hk : (zk Z a).1 = 32 := by rw [hk0]
  refine ⟨Z1, ?_, q⟩
  rw [zDr_345, b345_0, if_neg (by decide), b345_16, if_neg (by decide), b345_31, if_neg (by decide), b345_61, if_neg (by decide), b345_78, if_neg (by decide), b345_93, if_neg (by decide), b345_123, if_neg (by decide), b345_139, if_neg (by decide), b345_154, if_neg (by decide), b345_172, if_neg (by decide), b345_188, if_neg (by decide), b345_204, if_neg (by decide), b345_222, if_neg (by decide), b345_237, if_neg (by decide), b345_253, if_neg (by decide), b345_269, if_neg (by decide), b345_284, if_neg (by decide), b345_298, if_pos (by decide), b345_304, zchk_pos hk, r]
  rcases ho with ⟨v, rfl⟩ | ⟨x, rfl, hx⟩
  · rw [qcall_l, qJ_s, b345_308, b345_333]
    rfl
  · rw [qcall_r]
    rcases hx with rfl | rfl | rfl
    · exact b345_340 e _ _ _ _ _ _ Z1
    · exact b345_346 e _ _ _ _ _ _ Z1
    · exact b345_334 e _ _ _ _ _ _ Z1
theorem l_t18 (e : Nat) (a2 a3 a4 : Int) {V V2 : zS} {o : zO} (ho : aLng o) (s : hS e 125 [vi a2, vi a3] o V V2) : hSk (e + 1) 345 [vi 18, vi a2, vi a3, vi a4] (.inl (some (vl (res o)))) V V2 := fun Z a b W hh hk0 => by
  obtain ⟨Z1, r, q⟩ := s Z a b W hh
  have hk : (zk Z a).1 = 32 := by rw [hk0]
  refine ⟨Z1, ?_, q⟩
  rw [zDr_345, b345_0, if_neg (by decide), b345_16, if_neg (by decide), b345_31, if_neg (by decide), b345_61, if_neg (by decide), b345_78, if_neg (by decide), b345_93, if_neg (by decide), b345_123, if_neg (by decide), b345_139, if_neg (by decide), b345_154, if_neg (by decide), b345_172, if_neg (by decide), b345_188, if_neg (by decide), b345_204, if_neg (by decide), b345_222, if_neg (by decide), b345_237, if_neg (by decide), b345_253, if_neg (by decide), b345_269, if_neg (by decide), b345_284, if_neg (by decide), b345_298, if_neg (by decide), b345_312, if_pos (by decide), b345_318, zchk_pos hk, r]
  rcases ho with ⟨v, rfl⟩ | ⟨x, rfl, hx⟩
  · rw [qcall_l, qJ_s, b345_324, b345_333]
    rfl
  · rw [qcall_r]
    rcases hx with rfl | rfl | rfl
    · exact b345_340 e _ _ _ _ _ _ Z1
    · exact b345_346 e _ _ _ _ _ _ Z1
    · exact b345_334 e _ _ _ _ _ _ Z1
theorem l_t19 (e : Nat) (a2 a3 a4 : Int) {V V2 : zS} {o : zO} (ho : aLng o) (s : hS e 126 [vi a2, vi a3] o V V2) : hSk (e + 1) 345 [vi 19, vi a2, vi a3, vi a4] (.inl (some (vl (res o)))) V V2 := fun Z a b W hh hk0 => by
  obtain ⟨Z1, r, q⟩ := s Z a b W hh
  have hk : (zk Z a).1 = 32 := by rw [hk0]
  refine ⟨Z1, ?_, q⟩
  rw [zDr_345, b345_0, if_neg (by decide), b345_16, if_neg (by decide), b345_31, if_neg (by decide), b345_61, if_neg (by decide), b345_78, if_neg (by decide), b345_93, if_neg (by decide), b345_123, if_neg (by decide), b345_139, if_neg (by decide), b345_154, if_neg (by decide), b345_172, if_neg (by decide), b345_188, if_neg (by decide), b345_204, if_neg (by decide), b345_222, if_neg (by decide), b345_237, if_neg (by decide), b345_253, if_neg (by decide), b345_269, if_neg (by decide), b345_284, if_neg (by decide), b345_298, if_neg (by decide), b345_312, if_neg (by decide), b345_327, zchk_pos hk, r]
  rcases ho with ⟨v, rfl⟩ | ⟨x, rfl, hx⟩
  · rw [qcall_l, qJ_s, b345_333]
    rfl
  · rw [qcall_r]
    rcases hx with rfl | rfl | rfl
    · exact b345_340 e _ _ _ _ _ _ Z1
    · exact b345_346 e _ _ _ _ _ _ Z1
    · exact b345_334 e _ _ _ _ _ _ Z1
