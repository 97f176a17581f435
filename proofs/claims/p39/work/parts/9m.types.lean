/-! The law's words on the tape. -/
theorem zand_m (a : Int) : 0 ≤ zand a 2147483647 ∧ zand a 2147483647 < 2147483648 := by
  have h : (Int32.ofInt a &&& Int32.ofInt 2147483647).toBitVec.msb = false := by
    rw [Int32.toBitVec_and, BitVec.msb_and, show (Int32.ofInt 2147483647).toBitVec.msb = false by decide, Bool.and_false]
  have e : zand a 2147483647 = ((Int32.ofInt a &&& Int32.ofInt 2147483647).toBitVec.toNat : Int) := BitVec.toInt_eq_toNat_of_msb h
  have h2 := BitVec.msb_eq_false_iff_two_mul_lt.mp h
  rw [e]
  omega
def lo (a n : Int) : Int := Int.tmod (zand a 2147483647) n
theorem lo_r (a : Int) {n : Int} (h : 0 < n) : 0 ≤ lo a n ∧ lo a n < n := ⟨Int.tmod_nonneg _ (zand_m a).1, Int.tmod_lt_of_pos _ h⟩
theorem l_low (d : Nat) (a n : Int) (Z : zS) (h : n ≠ 0) : zDr (d + 1) 343 [vi a, vi n] Z = some (.inl (some (vi (lo a n))), Z) := by
  rw [zDr_343, b343_0, zchk_pos h]
  rfl
theorem qch_c : ∀ n : Nat, n < 128 → qch (n : Int) 0 = n := by decide +kernel
theorem qst_c {c : Int} (h0 : 0 ≤ c) (h1 : c < 128) (h : qst c) : qst (qch c 0) := by
  have := qch_c c.toNat (by omega)
  rw [show ((c.toNat : Nat) : Int) = c by omega] at this
  rw [this]
  exact h
/-- a house's step, seen from the machine's memory -/
def hM (a b : Int) (W V V2 Z Z1 : zS) : Prop := hH a b Z1 V2 W ∧ zmono Z Z1 ∧ zc Z1 + zc V ≤ zc V2 + zc Z ∧ zw Z1 + zw V ≤ zw V2 + zw Z ∧ ∀ x : Int, x < zn Z → ((zk Z x).1 = 40 ∨ (zk Z x).1 = 99) → zm Z1 x = zm Z x
theorem hM.rf {a b : Int} {W V Z : zS} (h : hH a b Z V W) : hM a b W V V Z Z := ⟨h, zmono.rf Z, Nat.le_of_eq (Nat.add_comm _ _), Nat.le_of_eq (Nat.add_comm _ _), fun _ _ _ => rfl⟩
theorem hM.tr {a b : Int} {W V V1 V2 Z Z1 Z2 : zS} (h : hM a b W V V1 Z Z1) (g : hM a b W V1 V2 Z1 Z2) : hM a b W V V2 Z Z2 := by
  obtain ⟨h1, h2, h3, h4, h5⟩ := h
  obtain ⟨g1, g2, g3, g4, g5⟩ := g
  have l := h2.1
  exact ⟨g1, h2.tr g2, by omega, by omega, fun x hx q => (g5 x (by omega) (by rw [h2.2.2.2 x hx]; exact q)).trans (h5 x hx q)⟩
theorem hS.m {d y : Nat} {as : List zV} {o : zO} {V V2 : zS} (s : hS d y as o V V2) {a b : Int} {Z W : zS} (h : hH a b Z V W) : ∃ Z1, zDr d y (vr a :: as) Z = some (o, Z1) ∧ hM a b W V V2 Z Z1 := s Z a b W h
/-- the letters or digits of a word -/
theorem l_letters (e : Nat) (v ws k w n dg gr : Int) (hn : n ≤ 6) : ∀ (g : Nat) (j : Int), 0 ≤ j → j + g = n →
    ∃ l : List Int, l.length = g ∧ (∀ c ∈ l, qst (qch c 0)) ∧ ∀ V V2, hPs (e + 1) l V V2 → ∀ Z a b W, hH a b Z V W →
      ∃ Z1, zF_347 (e + 2) 150 [vr a, vi v, vi ws, vi 1, vi k, vi w, vi n, vi dg, vi gr, vi j] [] Z = zF_347 (e + 2) 228 [vr a, vi v, vi ws, vi 1, vi k, vi w, vi n, vi dg, vi gr, vi n] [] Z1 ∧ hM a b W V V2 Z Z1
  | 0, j, h0, hj => by
    refine ⟨[], rfl, fun c hc => absurd hc List.not_mem_nil, fun V V2 hp Z a b W hh => ?_⟩
    obtain rfl : V2 = V := hp
    refine ⟨Z, ?_, hM.rf hh⟩
    rw [b347_150, if_neg (show ¬ j < n by omega), show j = n by omega]
  | g + 1, j, h0, hj => by
    obtain ⟨l, l1, l2, l3⟩ := l_letters e v ws k w n dg gr hn g (j + 1) (by omega) (by omega)
    have r10 := lo_r (zshr w j) (show (0 : Int) < 10 by decide)
    have r3 := lo_r (zshr w (z32 (2 * j))) (show (0 : Int) < 3 by decide)
    have zj : z32 (j + 1) = j + 1 := q32 (by omega)
    obtain ⟨c, hc, hgo⟩ : ∃ c, qst (qch c 0) ∧ ∀ (Z : zS) (a : Int), zF_347 (e + 2) 150 [vr a, vi v, vi ws, vi 1, vi k, vi w, vi n, vi dg, vi gr, vi j] [] Z = zcall (zDr (e + 2) 346 [vr a, vi c] Z) (zJ (zF_347 (e + 2) 221 [vr a, vi v, vi ws, vu, vi k, vi w, vi n, vi dg, vi gr, vi j]) []) zEx := by
      by_cases cd : dg = 0
      · obtain ⟨u, hu, hu2⟩ : ∃ u : Int, (u = 65 ∨ u = 97) ∧ ∀ (Z : zS) (a : Int), zF_347 (e + 2) 183 [vr a, vi v, vi ws, vu, vi k, vi w, vi n, vi dg, vi gr, vi j] [vr a] Z = zF_347 (e + 2) 206 [vr a, vi v, vi ws, vu, vi k, vi w, vi n, vi dg, vi gr, vi j] [vi u, vr a] Z := by
          by_cases c0 : gr = 0
          · exact ⟨65, Or.inl rfl, fun Z a => by rw [b347_183, if_pos c0, b347_199]⟩
          · by_cases c1 : gr = 1
            · by_cases cj : j = 0
              · exact ⟨65, Or.inl rfl, fun Z a => by rw [b347_183, if_neg c0, b347_188, if_pos c1, b347_194, if_pos cj, b347_199]⟩
              · exact ⟨97, Or.inr rfl, fun Z a => by rw [b347_183, if_neg c0, b347_188, if_pos c1, b347_194, if_neg cj, b347_204]⟩
            · exact ⟨97, Or.inr rfl, fun Z a => by rw [b347_183, if_neg c0, b347_188, if_neg c1, b347_204]⟩
        refine ⟨u + lo (zshr w (z32 (2 * j))) 3, qst_c (by omega) (by omega) (by omega), fun Z a => ?_⟩
        rw [b347_150, if_pos (show j < n by omega), b347_157, if_neg (by decide), b347_161, if_pos cd, hu2, b347_206, l_low (e + 1) _ _ _ (by decide), qcall_l, qJ_s, b347_217, show z32 (u + lo (zshr w (z32 (2 * j))) 3) = u + lo (zshr w (z32 (2 * j))) 3 from q32 (by omega), b347_218]
      · refine ⟨48 + lo (zshr w j) 10, qst_c (by omega) (by omega) (by omega), fun Z a => ?_⟩
        rw [b347_150, if_pos (show j < n by omega), b347_157, if_neg (by decide), b347_161, if_neg cd, b347_167, l_low (e + 1) _ _ _ (by decide), qcall_l, qJ_s, b347_179, show z32 (48 + lo (zshr w j) 10) = 48 + lo (zshr w j) 10 from q32 (by omega), b347_218]
    refine ⟨c :: l, by rw [List.length_cons, l1], fun x hx => ?_, fun V V2 hp Z a b W hh => ?_⟩
    · rcases List.mem_cons.mp hx with rfl | hx
      · exact hc
      · exact l2 x hx
    · obtain ⟨V1, s, hp⟩ := hp
      obtain ⟨Z1, r, m1⟩ := s.m hh
      obtain ⟨Z2, r2, m2⟩ := l3 V1 V2 hp Z1 a b W m1.1
      refine ⟨Z2, ?_, m1.tr m2⟩
      rw [hgo, r, qcall_l, qJ_s, b347_221, zj, r2]
/-- a row of signs put, where the law asks for one -/
theorem hPs_1 {e : Nat} {c : Int} {V V2 : zS} (h : hPs e [c] V V2) : hS (e + 1) 346 [vi c] (.inl (some (vi 1))) V V2 := by
  obtain ⟨V1, s, h⟩ := h
  obtain rfl : V2 = V1 := h
  exact s
/-- a word -/
theorem l_word (e : Nat) (v ws k : Int) (hk : 0 ≤ k ∧ k < ws) (hw : ws ≤ 4) :
    ∃ l : List Int, l.length ≤ 9 ∧ (∀ c ∈ l, qst (qch c 0)) ∧ ∀ V V2, hPs (e + 1) l V V2 → ∀ Z a b W, hH a b Z V W →
      ∃ Z1, zF_347 (e + 2) 13 [vr a, vi v, vi ws, vi 1, vi k, vu, vu, vu, vu, vu] [] Z = zF_347 (e + 2) 13 [vr a, vi v, vi ws, vi 1, vi (k + 1), vu, vu, vu, vu, vu] [] Z1 ∧ hM a b W V V2 Z Z1 := by
  obtain ⟨w, hw0⟩ : ∃ w, zshr v (z32 (k + 2)) = w := ⟨_, rfl⟩
  have r6 := lo_r w (show (0 : Int) < 6 by decide)
  obtain ⟨n, hn⟩ : ∃ n, 1 + lo w 6 = n := ⟨_, rfl⟩
  have zn1 : z32 (1 + lo w 6) = n := by rw [hn]; exact q32 (by omega)
  have zk1 : z32 (k + 1) = k + 1 := q32 (by omega)
  obtain ⟨dg, hdg⟩ : ∃ dg : Int, ∀ (Z : zS) (a : Int), zF_347 (e + 2) 51 [vr a, vi v, vi ws, vu, vi k, vi w, vi n, vu, vu, vu] [vi (lo (zshr w 3) 8)] Z = zF_347 (e + 2) 59 [vr a, vi v, vi ws, vu, vi k, vi w, vi n, vu, vu, vu] [vi dg] Z := by
    by_cases c : lo (zshr w 3) 8 = 0
    · exact ⟨1, fun Z a => by rw [b347_51, if_pos c, b347_54]⟩
    · exact ⟨0, fun Z a => by rw [b347_51, if_neg c, b347_58]⟩
  have h1 : ∀ (Z : zS) (a : Int), zF_347 (e + 2) 13 [vr a, vi v, vi ws, vi 1, vi k, vu, vu, vu, vu, vu] [] Z = if k = 0 then zF_347 (e + 2) 121 [vr a, vi v, vi ws, vu, vi k, vi w, vi n, vi dg, vi (lo (zshr w 2) 7), vu] [] Z else zF_347 (e + 2) 77 [vr a, vi v, vi ws, vu, vi k, vi w, vi n, vi dg, vi (lo (zshr w 2) 7), vu] [] Z := fun Z a => by
    rw [b347_13, if_pos hk.2, b347_19, if_neg (by decide), b347_23, hw0, l_low (e + 1) _ _ _ (by decide), qcall_l, qJ_s, b347_39, l_low (e + 1) _ _ _ (by decide), qcall_l, qJ_s, zn1, hdg, b347_59, l_low (e + 1) _ _ _ (by decide), qcall_l, qJ_s, b347_70]
  generalize lo (zshr w 2) 7 = gr at h1
  -- the sign between two words
  obtain ⟨l0, a1, a2, a3⟩ : ∃ l : List Int, l.length ≤ 1 ∧ (∀ c ∈ l, qst (qch c 0)) ∧ ∀ V V2, hPs (e + 1) l V V2 → ∀ Z a b W, hH a b Z V W →
      ∃ Z1, zF_347 (e + 2) 13 [vr a, vi v, vi ws, vi 1, vi k, vu, vu, vu, vu, vu] [] Z = zF_347 (e + 2) 121 [vr a, vi v, vi ws, vu, vi k, vi w, vi n, vi dg, vi gr, vu] [] Z1 ∧ hM a b W V V2 Z Z1 := by
    by_cases c : k = 0
    · refine ⟨[], Nat.zero_le _, fun c hc => absurd hc List.not_mem_nil, fun V V2 hp Z a b W hh => ?_⟩
      obtain rfl : V2 = V := hp
      exact ⟨Z, by rw [h1, if_pos c], hM.rf hh⟩
    · obtain ⟨s, hs, hgo⟩ : ∃ s : Int, (s = 47 ∨ s = 124 ∨ s = 32) ∧ ∀ (Z : zS) (a : Int), zF_347 (e + 2) 77 [vr a, vi v, vi ws, vu, vi k, vi w, vi n, vi dg, vi gr, vu] [] Z = zcall (zDr (e + 2) 346 [vr a, vi s] Z) (zJ (zF_347 (e + 2) 118 [vr a, vi v, vi ws, vu, vi k, vi w, vi n, vi dg, vi gr, vu]) []) zEx := by
        by_cases c0 : lo (zshr w 1) 9 = 0
        · exact ⟨47, Or.inl rfl, fun Z a => by rw [b347_77, l_low (e + 1) _ _ _ (by decide), qcall_l, qJ_s, b347_87, if_pos c0, b347_90, b347_115]⟩
        · by_cases c1 : lo (zshr w 1) 9 = 1
          · exact ⟨124, Or.inr (Or.inl rfl), fun Z a => by rw [b347_77, l_low (e + 1) _ _ _ (by decide), qcall_l, qJ_s, b347_87, if_neg c0, b347_95, l_low (e + 1) _ _ _ (by decide), qcall_l, qJ_s, b347_104, if_pos c1, b347_108, b347_115]⟩
          · exact ⟨32, Or.inr (Or.inr rfl), fun Z a => by rw [b347_77, l_low (e + 1) _ _ _ (by decide), qcall_l, qJ_s, b347_87, if_neg c0, b347_95, l_low (e + 1) _ _ _ (by decide), qcall_l, qJ_s, b347_104, if_neg c1, b347_113, b347_115]⟩
      refine ⟨[s], Nat.le_refl _, fun x hx => ?_, fun V V2 hp Z a b W hh => ?_⟩
      · rw [List.mem_singleton.mp hx]
        exact qst_c (by omega) (by omega) (by omega)
      · obtain ⟨Z1, r, m1⟩ := (hPs_1 hp).m hh
        exact ⟨Z1, by rw [h1, if_neg c, hgo, r, qcall_l, qJ_s, b347_118, if_neg (by decide)], m1⟩
  -- the star
  obtain ⟨l1, b1, b2, b3⟩ : ∃ l : List Int, l.length ≤ 1 ∧ (∀ c ∈ l, qst (qch c 0)) ∧ ∀ V V2, hPs (e + 1) l V V2 → ∀ Z a b W, hH a b Z V W →
      ∃ Z1, zF_347 (e + 2) 121 [vr a, vi v, vi ws, vu, vi k, vi w, vi n, vi dg, vi gr, vu] [] Z = zF_347 (e + 2) 150 [vr a, vi v, vi ws, vi 1, vi k, vi w, vi n, vi dg, vi gr, vi 0] [] Z1 ∧ hM a b W V V2 Z Z1 := by
    by_cases c : 0 < lo (zshr w 4) 5
    · refine ⟨[], Nat.zero_le _, fun c hc => absurd hc List.not_mem_nil, fun V V2 hp Z a b W hh => ?_⟩
      obtain rfl : V2 = V := hp
      exact ⟨Z, by rw [b347_121, l_low (e + 1) _ _ _ (by decide), qcall_l, qJ_s, b347_129, if_pos c, b347_141, b347_146], hM.rf hh⟩
    · refine ⟨[42], Nat.le_refl _, fun x hx => ?_, fun V V2 hp Z a b W hh => ?_⟩
      · rw [List.mem_singleton.mp hx]
        exact qst_c (by decide) (by decide) (by decide)
      · obtain ⟨Z1, r, m1⟩ := (hPs_1 hp).m hh
        exact ⟨Z1, by rw [b347_121, l_low (e + 1) _ _ _ (by decide), qcall_l, qJ_s, b347_129, if_neg c, b347_132, r, qcall_l, qJ_s, b347_138, if_neg (by decide), b347_141, b347_146], m1⟩
  obtain ⟨l2, c1, c2, c3⟩ := l_letters e v ws k w n dg gr (by omega) n.toNat 0 (Int.le_refl 0) (by omega)
  -- the mark
  obtain ⟨l3, d1, d2, d3⟩ : ∃ l : List Int, l.length ≤ 1 ∧ (∀ c ∈ l, qst (qch c 0)) ∧ ∀ V V2, hPs (e + 1) l V V2 → ∀ Z a b W, hH a b Z V W →
      ∃ Z1, zF_347 (e + 2) 228 [vr a, vi v, vi ws, vi 1, vi k, vi w, vi n, vi dg, vi gr, vi n] [] Z = zF_347 (e + 2) 13 [vr a, vi v, vi ws, vi 1, vi (k + 1), vu, vu, vu, vu, vu] [] Z1 ∧ hM a b W V V2 Z Z1 := by
    obtain ⟨mk, hmk⟩ : ∃ mk, lo (zshr w 6) 9 = mk := ⟨_, rfl⟩
    have h2 : ∀ (Z : zS) (a : Int), zF_347 (e + 2) 228 [vr a, vi v, vi ws, vi 1, vi k, vi w, vi n, vi dg, vi gr, vi n] [] Z = zF_347 (e + 2) 244 [vr a, vi v, vi ws, vu, vi k, vu, vu, vu, vu, vi mk] [] Z := fun Z a => by
      rw [b347_228, l_low (e + 1) _ _ _ (by decide), qcall_l, qJ_s, hmk, b347_238, if_neg (by decide), b347_244, b347_244]
    by_cases c : 3 < mk
    · refine ⟨[], Nat.zero_le _, fun c hc => absurd hc List.not_mem_nil, fun V V2 hp Z a b W hh => ?_⟩
      obtain rfl : V2 = V := hp
      exact ⟨Z, by rw [h2, b347_244, if_pos c, b347_291, b347_296, zk1], hM.rf hh⟩
    · obtain ⟨s, hs, hgo⟩ : ∃ s : Int, (s = 44 ∨ s = 46 ∨ s = 59 ∨ s = 63) ∧ ∀ (Z : zS) (a : Int), zF_347 (e + 2) 244 [vr a, vi v, vi ws, vu, vi k, vu, vu, vu, vu, vi mk] [] Z = zcall (zDr (e + 2) 346 [vr a, vi s] Z) (zJ (zF_347 (e + 2) 288 [vr a, vi v, vi ws, vu, vi k, vu, vu, vu, vu, vu]) []) zEx := by
        by_cases q0 : mk = 0
        · exact ⟨44, Or.inl rfl, fun Z a => by rw [b347_244, if_neg c, b347_250, if_pos q0, b347_256, b347_285]⟩
        · by_cases q1 : mk = 1
          · exact ⟨46, Or.inr (Or.inl rfl), fun Z a => by rw [b347_244, if_neg c, b347_250, if_neg q0, b347_261, if_pos q1, b347_267, b347_285]⟩
          · by_cases q2 : mk = 2
            · exact ⟨59, Or.inr (Or.inr (Or.inl rfl)), fun Z a => by rw [b347_244, if_neg c, b347_250, if_neg q0, b347_261, if_neg q1, b347_272, if_pos q2, b347_278, b347_285]⟩
            · exact ⟨63, Or.inr (Or.inr (Or.inr rfl)), fun Z a => by rw [b347_244, if_neg c, b347_250, if_neg q0, b347_261, if_neg q1, b347_272, if_neg q2, b347_283, b347_285]⟩
      refine ⟨[s], Nat.le_refl _, fun x hx => ?_, fun V V2 hp Z a b W hh => ?_⟩
      · rw [List.mem_singleton.mp hx]
        exact qst_c (by omega) (by omega) (by omega)
      · obtain ⟨Z1, r, m1⟩ := (hPs_1 hp).m hh
        exact ⟨Z1, by rw [h2, hgo, r, qcall_l, qJ_s, b347_288, if_neg (by decide), b347_291, b347_296, zk1], m1⟩
  refine ⟨l0 ++ (l1 ++ (l2 ++ l3)), by rw [List.length_append, List.length_append, List.length_append]; omega, fun x hx => ?_, fun V V2 hp Z a b W hh => ?_⟩
  · rcases List.mem_append.mp hx with hx | hx
    · exact a2 x hx
    · rcases List.mem_append.mp hx with hx | hx
      · exact b2 x hx
      · rcases List.mem_append.mp hx with hx | hx
        · exact c2 x hx
        · exact d2 x hx
  · obtain ⟨V1, p1, hp⟩ := hPs_app hp
    obtain ⟨V3, p2, hp⟩ := hPs_app hp
    obtain ⟨V4, p3, p4⟩ := hPs_app hp
    obtain ⟨Z1, r1, m1⟩ := a3 V V1 p1 Z a b W hh
    obtain ⟨Z2, r2, m2⟩ := b3 V1 V3 p2 Z1 a b W m1.1
    obtain ⟨Z3, r3, m3⟩ := c3 V3 V4 p3 Z2 a b W m2.1
    obtain ⟨Z4, r4, m4⟩ := d3 V4 V2 p4 Z3 a b W m3.1
    exact ⟨Z4, by rw [r1, r2, r3, r4], ((m1.tr m2).tr m3).tr m4⟩
/-- the words -/
theorem l_words (e : Nat) (v ws : Int) (hw : ws ≤ 4) : ∀ (g : Nat) (k : Int), 0 ≤ k → k + g = ws →
    ∃ l : List Int, l.length ≤ 9 * g ∧ (∀ c ∈ l, qst (qch c 0)) ∧ ∀ V V2, hPs (e + 1) l V V2 → ∀ Z a b W, hH a b Z V W →
      ∃ Z1, zF_347 (e + 2) 13 [vr a, vi v, vi ws, vi 1, vi k, vu, vu, vu, vu, vu] [] Z = some (.inl (some (vi 1)), Z1) ∧ hM a b W V V2 Z Z1
  | 0, k, h0, hk => by
    refine ⟨[], Nat.zero_le _, fun c hc => absurd hc List.not_mem_nil, fun V V2 hp Z a b W hh => ?_⟩
    obtain rfl : V2 = V := hp
    exact ⟨Z, by rw [b347_13, if_neg (by omega), b347_303, zchk_pos (by decide)], hM.rf hh⟩
  | g + 1, k, h0, hk => by
    obtain ⟨l1, a1, a2, a3⟩ := l_word e v ws k (by omega) hw
    obtain ⟨l2, b1, b2, b3⟩ := l_words e v ws hw g (k + 1) (by omega) (by omega)
    refine ⟨l1 ++ l2, by rw [List.length_append]; omega, fun x hx => ?_, fun V V2 hp Z a b W hh => ?_⟩
    · rcases List.mem_append.mp hx with hx | hx
      · exact a2 x hx
      · exact b2 x hx
    · obtain ⟨V1, p1, p2⟩ := hPs_app hp
      obtain ⟨Z1, r1, m1⟩ := a3 V V1 p1 Z a b W hh
      obtain ⟨Z2, r2, m2⟩ := b3 V1 V2 p2 Z1 a b W m1.1
      exact ⟨Z2, by rw [r1, r2], m1.tr m2⟩
theorem l_types (e : Nat) (v : Int) : ∃ l : List Int, l.length ≤ 36 ∧ (∀ c ∈ l, qst (qch c 0)) ∧ ∀ V V2, hPs (e + 1) l V V2 → hS (e + 3) 347 [vi v] (.inl (some (vi 1))) V V2 := by
  have r4 := lo_r v (show (0 : Int) < 4 by decide)
  obtain ⟨l, a1, a2, a3⟩ := l_words e v (1 + lo v 4) (by omega) (1 + lo v 4).toNat 0 (Int.le_refl 0) (by omega)
  refine ⟨l, by omega, a2, fun V V2 hp Z a b W hh => ?_⟩
  obtain ⟨Z1, r1, m1⟩ := a3 V V2 hp Z a b W hh
  refine ⟨Z1, ?_, m1⟩
  rw [zDr_347, b347_0, l_low (e + 1) _ _ _ (by decide), qcall_l, qJ_s, b347_6, show z32 (1 + lo v 4) = 1 + lo v 4 from q32 (by omega)]
  exact r1
