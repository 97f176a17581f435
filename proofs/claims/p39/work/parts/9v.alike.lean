/-! The law asks both houses the same. -/
def hM2 (a b : Int) (V W V2 W2 Z Z2 : zS) : Prop := hH a b Z2 V2 W2 ∧ zmono Z Z2 ∧ zc Z2 + zc V + zc W ≤ zc V2 + zc W2 + zc Z ∧ zw Z2 + zw V + zw W ≤ zw V2 + zw W2 + zw Z ∧ ∀ x : Int, x < zn Z → ((zk Z x).1 = 40 ∨ (zk Z x).1 = 99) → zm Z2 x = zm Z x
theorem hM2.rf {a b : Int} {V W Z : zS} (h : hH a b Z V W) : hM2 a b V W V W Z Z := ⟨h, zmono.rf Z, by omega, by omega, fun _ _ _ => rfl⟩
theorem hM2.tr {a b : Int} {V W V1 W1 V2 W2 Z Z1 Z2 : zS} (h : hM2 a b V W V1 W1 Z Z1) (g : hM2 a b V1 W1 V2 W2 Z1 Z2) : hM2 a b V W V2 W2 Z Z2 := by
  obtain ⟨h1, h2, h3, h4, h5⟩ := h
  obtain ⟨g1, g2, g3, g4, g5⟩ := g
  have l := h2.1
  exact ⟨g1, h2.tr g2, by omega, by omega, fun x hx q => (g5 x (by omega) (by rw [h2.2.2.2 x hx]; exact q)).trans (h5 x hx q)⟩
theorem hM.two {a b : Int} {V W V2 W2 Z Z1 Z2 : zS} (h : hM a b W V V2 Z Z1) (g : hM b a V2 W W2 Z1 Z2) : hM2 a b V W V2 W2 Z Z2 := by
  obtain ⟨h1, h2, h3, h4, h5⟩ := h
  obtain ⟨g1, g2, g3, g4, g5⟩ := g
  have l := h2.1
  exact ⟨g1.symm, h2.tr g2, by omega, by omega, fun x hx q => (g5 x (by omega) (by rw [h2.2.2.2 x hx]; exact q)).trans (h5 x hx q)⟩
/-- one house's step, its partner at rest -/
theorem hM.lft {a b : Int} {V W V2 Z Z1 : zS} (h : hM a b W V V2 Z Z1) : hM2 a b V W V2 W Z Z1 := by
  obtain ⟨h1, h2, h3, h4, h5⟩ := h
  exact ⟨h1, h2, by omega, by omega, h5⟩
theorem hM.rgt {a b : Int} {V W W2 Z Z1 : zS} (h : hM b a V W W2 Z Z1) : hM2 a b V W V W2 Z Z1 := by
  obtain ⟨h1, h2, h3, h4, h5⟩ := h
  exact ⟨h1.symm, h2, by omega, by omega, h5⟩
/-- houses asked and little changed -/
def hN2 (n : Nat) (V W V2 W2 : zS) : Prop := hY V2 W2 ∧ (hD V V2 ∧ hD W W2) ∧ (zc V2 ≤ zc V + n ∧ zw V2 ≤ zw V + 6 * n) ∧ zc W2 ≤ zc W + n ∧ zw W2 ≤ zw W + 6 * n
theorem hN2.rf {V W : zS} (h : hY V W) : hN2 0 V W V W := ⟨h, ⟨hD.rf h.2.1, hD.rf h.2.2.1⟩, ⟨Nat.le_refl _, Nat.le_refl _⟩, Nat.le_refl _, Nat.le_refl _⟩
theorem hN2.tr {n m : Nat} {V W V1 W1 V2 W2 : zS} (h : hN2 n V W V1 W1) (g : hN2 m V1 W1 V2 W2) : hN2 (n + m) V W V2 W2 := by
  obtain ⟨h1, ⟨h2, h3⟩, ⟨h4, h5⟩, h6, h7⟩ := h
  obtain ⟨g1, ⟨g2, g3⟩, ⟨g4, g5⟩, g6, g7⟩ := g
  exact ⟨g1, ⟨h2.tr g2, h3.tr g3⟩, ⟨by omega, by omega⟩, by omega, by omega⟩
/-- the same answer of both, told by the law's second door -/
def hTl (e : Nat) (args : List zV) : Prop := ∀ V W, hY V W → ∃ (r : Int) (V2 W2 : zS), hN2 1 V W V2 W2 ∧ ∀ Z a b, hH a b Z V W → ∃ Z1 Z2, zDr e 345 (vr a :: args) Z = some (.inl (some (vl r)), Z1) ∧ zDr e 345 (vr b :: args) Z1 = some (.inl (some (vl r)), Z2) ∧ hM2 a b V W V2 W2 Z Z2
theorem hTl_q {e y : Nat} {as args : List zV} (u : hU1 false e y as) (q : hA1 false e y as) (l : ∀ {V V2 : zS} {o : zO}, aInt o → hS e y as o V V2 → hSk (e + 1) 345 args (.inl (some (vl (res o)))) V V2) : hTl (e + 1) args := fun V W h => by
  obtain ⟨o, o', V2, W2, al, ⟨s1, s2⟩, y2, d, ⟨c1, c2⟩, c3, c4⟩ := h_asks h u q
  have i : aInt o ∧ aInt o' ∧ res o' = res o := by
    rcases al with ⟨v, rfl, rfl⟩ | ⟨q, q'⟩
    · exact ⟨Or.inl ⟨v, rfl⟩, Or.inl ⟨v, rfl⟩, rfl⟩
    · exact ⟨Or.inr q, Or.inr q', by rw [aX_r q, aX_r q']⟩
  refine ⟨res o, V2, W2, ⟨y2, d, ⟨by omega, by omega⟩, by omega, by omega⟩, fun Z a b hh => ?_⟩
  obtain ⟨Z1, r1, m1⟩ := l i.1 s1 Z a b W hh (hh.ka h.2.1)
  obtain ⟨Z2, r2, m2⟩ := l i.2.1 s2 Z1 b a V2 m1.1.symm (m1.1.symm.ka h.2.2.1)
  rw [i.2.2] at r2
  exact ⟨Z1, Z2, r1, r2, m1.two m2⟩
theorem t_17 (e : Nat) (he : 300 ≤ e) : hTl (e + 1) [vi 17, vi 0, vi 0, vi 0] := hTl_q (u_147 e he) (a_pure (u_147 e he) (by rfl)) fun ho s => l_t17 e 0 0 0 ho s
theorem t_16 (e : Nat) (he : 300 ≤ e) : hTl (e + 1) [vi 16, vi 0, vi 0, vi 0] := hTl_q (u_140 e he) (a_140 e he) fun ho s => l_t16 e 0 0 0 ho s
theorem t_1 (e : Nat) (he : 300 ≤ e) (a b : Int) : hTl (e + 1) [vi 1, vi a, vi b, vi 0] := hTl_q (u_134 e he a b) (a_pure (u_134 e he a b) (by rfl)) fun ho s => l_t1 e a b 0 ho s
theorem t_9 (e : Nat) (he : 300 ≤ e) (a b : Int) : hTl (e + 1) [vi 9, vi a, vi b, vi 0] := hTl_q (u_143 e he a b) (a_pure (u_143 e he a b) (by rfl)) fun ho s => l_t9 e a b 0 ho s
theorem t_14 (e : Nat) (he : 300 ≤ e) (a b : Int) : hTl (e + 1) [vi 14, vi a, vi b, vi 0] := hTl_q (u_149 e he a b) (a_pure (u_149 e he a b) (by rfl)) fun ho s => l_t14 e a b 0 ho s
theorem t_6 (e : Nat) (he : 300 ≤ e) (a b : Int) : hTl (e + 1) [vi 6, vi a, vi b, vi 0] := hTl_q (u_139 e he a b) (a_139 e he a b) fun ho s => l_t6 e a b 0 ho s
theorem t_5 (e : Nat) (he : 300 ≤ e) (a b : Int) : hTl (e + 1) [vi 5, vi a, vi b, vi 0] := hTl_q (u_138 e he a _ _ _) (a_pure (u_138 e he a _ _ _) (by rfl)) fun ho s => l_t5 e a b 0 ho s
theorem t_2 (e : Nat) (he : 300 ≤ e) (a b : Int) : hTl (e + 1) [vi 2, vi a, vi b, vi 0] := hTl_q (u_135 e he a _ _ _) (a_pure (u_135 e he a _ _ _) (by rfl)) fun ho s => l_t2 e a b 0 ho s
theorem t_0 (e : Nat) (he : 300 ≤ e) (a b c : Int) : hTl (e + 1) [vi 0, vi a, vi b, vi c] := hTl_q (u_133 e he a b c) (a_pure (u_133 e he a b c) (by rfl)) fun ho s => l_t0 e a b c ho s
theorem t_15 (e : Nat) (he : 300 ≤ e) (a : Int) : hTl (e + 1) [vi 15, vi a, vi 0, vi 0] := hTl_q (u_150 e he a) (a_pure (u_150 e he a) (by rfl)) fun ho s => l_t15 e a 0 0 ho s
/-- the law's rest answers yes -/
def hAl (n : Nat) (F : Int → Int → zS → zR) : Prop := ∀ V W, hY V W → ∃ V2 W2, hN2 n V W V2 W2 ∧ ∀ Z a b, hH a b Z V W → ∃ Z2, F a b Z = some (.inl (some (vi 1)), Z2) ∧ hM2 a b V W V2 W2 Z Z2
theorem hAl.eq {n : Nat} {F F' : Int → Int → zS → zR} (h : hAl n F') (hF : ∀ a b Z, F a b Z = F' a b Z) : hAl n F := fun V W y => by
  obtain ⟨V2, W2, q, g⟩ := h V W y
  exact ⟨V2, W2, q, fun Z a b hh => by rw [hF]; exact g Z a b hh⟩
theorem hAl.fin {F : Int → Int → zS → zR} (hF : ∀ a b Z, F a b Z = some (.inl (some (vi 1)), Z)) : hAl 0 F := fun V W y => ⟨V, W, hN2.rf y, fun Z a b hh => ⟨Z, hF a b Z, hM2.rf hh⟩⟩
theorem hAl.tel {n e : Nat} {args : List zV} {F F' : Int → Int → zS → zR} (t : hTl e args) (h : hAl n F') (hF : ∀ a b Z Z1 Z2 r, zDr e 345 (vr a :: args) Z = some (.inl (some (vl r)), Z1) → zDr e 345 (vr b :: args) Z1 = some (.inl (some (vl r)), Z2) → F a b Z = F' a b Z2) : hAl (1 + n) F := fun V W y => by
  obtain ⟨r, V1, W1, q1, g1⟩ := t V W y
  obtain ⟨V2, W2, q2, g2⟩ := h V1 W1 q1.1
  refine ⟨V2, W2, q1.tr q2, fun Z a b hh => ?_⟩
  obtain ⟨Z1, Z2, r1, r2, m⟩ := g1 Z a b hh
  obtain ⟨Z3, r3, m3⟩ := g2 Z2 a b m.1
  exact ⟨Z3, by rw [hF a b Z Z1 Z2 r r1 r2, r3], m.tr m3⟩
theorem k_j (e : Nat) (he : 300 ≤ e) (v k j : Int) (hj : 0 ≤ j ∧ j < 7) {n : Nat} (h : hAl n (fun a b Z => zF_350 (e + 1) 66 [vr a, vr b, vi v, vi 1, vi k, vi (j + 1), vu] [] Z)) : hAl (7 + n) (fun a b Z => zF_350 (e + 1) 66 [vr a, vr b, vi v, vi 1, vi k, vi j, vu] [] Z) := by
  obtain ⟨P, hP⟩ : ∃ P, z32 (z32 (100 * lo (z32 (v + j)) 5) + lo (z32 (v + z32 (7 * j))) 18) = P := ⟨_, rfl⟩
  obtain ⟨w, hw⟩ : ∃ w, lo (z32 (v + z32 (5 * j))) 20 = w := ⟨_, rfl⟩
  have h0 : hAl n (fun a b Z => zF_350 (e + 1) 297 [vr a, vr b, vi v, vu, vi k, vi j, vu] [] Z) := h.eq fun a b Z => by rw [b350_297, b350_302, show z32 (j + 1) = j + 1 from q32 (by omega)]
  have h1 : hAl (1 + n) (fun a b Z => zF_350 (e + 1) 253 [vr a, vr b, vi v, vu, vi k, vi j, vu] [] Z) := hAl.tel (t_0 e he k w j) h0 fun a b Z Z1 Z2 r r1 r2 => by
    rw [b350_253, l_low e _ _ _ (by decide), qcall_l, qJ_s, hw, b350_268, r1, qcall_l, qJ_s, b350_273, l_low e _ _ _ (by decide), qcall_l, qJ_s, hw, b350_288, r2, qcall_l, qJ_s, b350_293, if_pos (zcmp_s r)]
  have h2 : hAl (1 + (1 + n)) (fun a b Z => zF_350 (e + 1) 229 [vr a, vr b, vi v, vu, vi k, vi j, vi P] [] Z) := hAl.tel (t_2 e he k P) h1 fun a b Z Z1 Z2 r r1 r2 => by
    rw [b350_229, r1, qcall_l, qJ_s, b350_239, r2, qcall_l, qJ_s, b350_249, if_pos (zcmp_s r)]
  have h3 : hAl (1 + (1 + (1 + n))) (fun a b Z => zF_350 (e + 1) 205 [vr a, vr b, vi v, vu, vi k, vi j, vi P] [] Z) := hAl.tel (t_5 e he k P) h2 fun a b Z Z1 Z2 r r1 r2 => by
    rw [b350_205, r1, qcall_l, qJ_s, b350_215, r2, qcall_l, qJ_s, b350_225, if_pos (zcmp_s r)]
  have h4 : hAl (1 + (1 + (1 + (1 + n)))) (fun a b Z => zF_350 (e + 1) 179 [vr a, vr b, vi v, vu, vi k, vi j, vi P] [] Z) := hAl.tel (t_6 e he k j) h3 fun a b Z Z1 Z2 r r1 r2 => by
    rw [b350_179, r1, qcall_l, qJ_s, b350_190, r2, qcall_l, qJ_s, b350_201, if_pos (zcmp_s r)]
  have h5 : hAl (1 + (1 + (1 + (1 + (1 + n))))) (fun a b Z => zF_350 (e + 1) 153 [vr a, vr b, vi v, vu, vi k, vi j, vi P] [] Z) := hAl.tel (t_14 e he j k) h4 fun a b Z Z1 Z2 r r1 r2 => by
    rw [b350_153, r1, qcall_l, qJ_s, b350_164, r2, qcall_l, qJ_s, b350_175, if_pos (zcmp_s r)]
  have h6 : hAl (1 + (1 + (1 + (1 + (1 + (1 + n)))))) (fun a b Z => zF_350 (e + 1) 127 [vr a, vr b, vi v, vu, vi k, vi j, vi P] [] Z) := hAl.tel (t_9 e he j k) h5 fun a b Z Z1 Z2 r r1 r2 => by
    rw [b350_127, r1, qcall_l, qJ_s, b350_138, r2, qcall_l, qJ_s, b350_149, if_pos (zcmp_s r)]
  have h7 : hAl (1 + (1 + (1 + (1 + (1 + (1 + (1 + n))))))) (fun a b Z => zF_350 (e + 1) 66 [vr a, vr b, vi v, vi 1, vi k, vi j, vu] [] Z) := hAl.tel (t_1 e he k j) h6 fun a b Z Z1 Z2 r r1 r2 => by
    rw [b350_66, if_pos hj.2, b350_73, if_neg (by decide), b350_77, l_low e _ _ _ (by decide), qcall_l, qJ_s, b350_87, l_low e _ _ _ (by decide), qcall_l, qJ_s, b350_100, hP, r1, qcall_l, qJ_s, b350_113, r2, qcall_l, qJ_s, b350_123, if_pos (zcmp_s r)]
  rw [show 7 + n = 1 + (1 + (1 + (1 + (1 + (1 + (1 + n)))))) by omega]
  exact h7
theorem k_js (e : Nat) (he : 300 ≤ e) (v k : Int) {n : Nat} (h : hAl n (fun a b Z => zF_350 (e + 1) 309 [vr a, vr b, vi v, vi 1, vi k, vi 7, vu] [] Z)) : ∀ (g : Nat) (j : Int), 0 ≤ j → j + g = 7 → hAl (7 * g + n) (fun a b Z => zF_350 (e + 1) 66 [vr a, vr b, vi v, vi 1, vi k, vi j, vu] [] Z)
  | 0, j, h0, hj => by
    obtain rfl : j = 7 := by omega
    rw [show 7 * 0 + n = n by omega]
    exact h.eq fun a b Z => by rw [b350_66, if_neg (by decide)]
  | g + 1, j, h0, hj => by
    rw [show 7 * (g + 1) + n = 7 + (7 * g + n) by omega]
    exact k_j e he v k j (by omega) (k_js e he v k h g (j + 1) (by omega) (by omega))
theorem k_k (e : Nat) (he : 300 ≤ e) (v : Int) : ∀ (g : Nat) (k : Int), 0 ≤ k → k + g = 4 → hAl (50 * g) (fun a b Z => zF_350 (e + 1) 53 [vr a, vr b, vi v, vi 1, vi k, vu, vu] [] Z)
  | 0, k, h0, hk => by
    obtain rfl : k = 4 := by omega
    exact hAl.fin fun a b Z => by rw [b350_53, if_neg (by decide), b350_349, zchk_pos (by decide)]
  | g + 1, k, h0, hk => by
    have h1 : hAl (50 * g) (fun a b Z => zF_350 (e + 1) 337 [vr a, vr b, vi v, vu, vi k, vu, vu] [] Z) := (k_k e he v g (k + 1) (by omega) (by omega)).eq fun a b Z => by rw [b350_337, b350_342, show z32 (k + 1) = k + 1 from q32 (by omega)]
    have h2 : hAl (1 + 50 * g) (fun a b Z => zF_350 (e + 1) 309 [vr a, vr b, vi v, vi 1, vi k, vi 7, vu] [] Z) := hAl.tel (t_15 e he k) h1 fun a b Z Z1 Z2 r r1 r2 => by
      rw [b350_309, if_neg (by decide), b350_313, r1, qcall_l, qJ_s, b350_323, r2, qcall_l, qJ_s, b350_333, if_pos (zcmp_s r)]
    have h3 := k_js e he v k h2 7 0 (Int.le_refl 0) (by omega)
    rw [show 50 * (g + 1) = 7 * 7 + (1 + 50 * g) by omega]
    exact h3.eq fun a b Z => by rw [b350_53, if_pos (by omega), b350_59, if_neg (by decide), b350_63]
/-- the law finds both houses alike -/
theorem h_are (e : Nat) (he : 300 ≤ e) (v : Int) : hAl 202 (fun a b Z => zDr (e + 2) 350 [vr a, vr b, vi v] Z) := by
  have h1 : hAl 200 (fun a b Z => zF_350 (e + 1) 44 [vr a, vr b, vi v, vu, vu, vu, vu] [] Z) := (k_k e he v 4 0 (Int.le_refl 0) (by omega)).eq fun a b Z => by rw [b350_44, b350_49]
  have h2 : hAl (1 + 200) (fun a b Z => zF_350 (e + 1) 22 [vr a, vr b, vi v, vu, vu, vu, vu] [] Z) := hAl.tel (t_16 e he) h1 fun a b Z Z1 Z2 r r1 r2 => by
    rw [b350_22, r1, qcall_l, qJ_s, b350_31, r2, qcall_l, qJ_s, b350_40, if_pos (zcmp_s r)]
  exact hAl.tel (t_17 e he) h2 fun a b Z Z1 Z2 r r1 r2 => by
    rw [zDr_350, b350_0, r1, qcall_l, qJ_s, b350_9, r2, qcall_l, qJ_s, b350_18, if_pos (zcmp_s r)]
