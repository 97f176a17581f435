/-! The law's first calls; the law. -/
theorem hZ0_u {V V2 : zS} {A B C A' B' C' n : Int} (h : hZ0 (zm V) A B C) (q : hQz n V V2) (hn : n = 4 ∨ n = 16 ∨ n = 76) (a : zm V2 37 4 = A') (b : zm V2 37 16 = B') (c : zm V2 37 76 = C') : hZ0 (zm V2) A' B' C' := by
  obtain ⟨h1, h2, h3, h4, h5, h6, h7⟩ := h
  exact ⟨(q.2.1 2 (by decide) (by omega)).trans h1, a, b, (q.2.1 50 (by decide) (by omega)).trans h4, (q.2.1 65 (by decide) (by omega)).trans h5, c, fun i => by rw [q.2.2]; exact h7 i⟩
theorem s_code {V W : zS} (h : hY V W) (z : hZ0 (zm V) 0 0 0) : ∃ V2 W2, hS 799 118 [] (.inl (some (vi 0))) V V2 ∧ hS 799 118 [] (.inl (some (vi 0))) W W2 ∧ hY V2 W2 ∧ hZ0 (zm V2) 1 0 0 ∧ hCt V V2 ∧ hCt W W2 := by
  have v : ∀ V : zS, qHC V → zm V 37 4 = 0 → ∃ V1, zD 799 118 (vr 3 :: []) V = some (.inl (some (vi 0)), V1) ∧ zm V1 3 2 = 0 + 1 := fun V hV h4 => by
    obtain ⟨⟨⟨⟨hK, hP, hL, hn⟩, ⟨hT, hC, hR, hk⟩, hPo, hY⟩, hBB⟩, hYC, hFc⟩ := id hV
    have q := cv_code 799 V (by decide) hK hP hC hn (by omega)
    rw [h4] at q
    exact q
  obtain ⟨V2, W2, s1, s2, y, q, ⟨k1, k2⟩, e⟩ := h_st h (n := 4) (k := 0) (i := 2) (as := []) (by rfl) (by rfl) trivial (z0_118 799 (by decide) h.2.1) (z0_118 799 (by decide) h.2.2.1) (v V h.2.1 z.2.1) (v W h.2.2.1 (by rw [← hY_37 h]; exact z.2.1))
  exact ⟨V2, W2, s1, s2, y, hZ0_u z q (by decide) (by rw [← y.2.1.1.1.2.1.2.1.1, e]; rfl) ((q.2.1 16 (by decide) (by decide)).trans z.2.2.1) ((q.2.1 76 (by decide) (by decide)).trans z.2.2.2.2.2.1), k1, k2⟩
theorem s_book {V W : zS} (h : hY V W) {B C : Int} (z : hZ0 (zm V) 1 B C) (hB : 0 ≤ B ∧ B < 4) {g w t b : Int} (hg : 0 ≤ g ∧ g ≤ 3) (hw : 18 ≤ w ∧ w ≤ 40) (ht : 3 ≤ t ∧ t ≤ 25) (hb : 0 ≤ b ∧ b ≤ 1) : ∃ V2 W2, hS 799 131 [vi 0, vi g, vi w, vi t, vi b] (.inl (some (vi B))) V V2 ∧ hS 799 131 [vi 0, vi g, vi w, vi t, vi b] (.inl (some (vi B))) W W2 ∧ hY V2 W2 ∧ hZ0 (zm V2) 1 (B + 1) C ∧ hCt V V2 ∧ hCt W W2 := by
  obtain ⟨z2, z4, z16, z50, z65, z76, z39⟩ := id z
  have v : ∀ V : zS, qHC V → zm V 37 4 = 1 → zm V 37 16 = B → ∃ V1, zD 799 131 (vr 3 :: [vi 0, vi g, vi w, vi t, vi b]) V = some (.inl (some (vi B)), V1) ∧ zm V1 3 6 = B + 1 := fun V hV h4 h16 => by
    obtain ⟨⟨⟨⟨hK, hP, hL, hn⟩, ⟨hT, hC, hR, hk⟩, hPo, hY⟩, hBB⟩, hYC, hFc⟩ := id hV
    have q := cv_book 799 V 0 g w t b (by decide) hK hP hC hY.1 hn hb (by omega) hg hw ht (by omega)
    rw [h16] at q
    exact q
  have e37 := hY_37 h
  obtain ⟨V2, W2, s1, s2, y, q, ⟨k1, k2⟩, e⟩ := h_st h (n := 16) (k := B) (i := 6) (as := [vi 0, vi g, vi w, vi t, vi b]) (by rfl) (by rfl) trivial (z0_131 799 (by decide) h.2.1 (by omega) 0 g w t b hb) (z0_131 799 (by decide) h.2.2.1 (by rw [← e37]; omega) 0 g w t b hb) (v V h.2.1 z4 z16) (v W h.2.2.1 (by rw [← e37]; exact z4) (by rw [← e37]; exact z16))
  exact ⟨V2, W2, s1, s2, y, hZ0_u z q (by decide) ((q.2.1 4 (by decide) (by decide)).trans z4) (by rw [← y.2.1.1.1.2.2.2.1.1, e]) ((q.2.1 76 (by decide) (by decide)).trans z76), k1, k2⟩
theorem s_reader {V W : zS} (h : hY V W) {B C : Int} (z : hZ0 (zm V) 1 B C) (hC : 0 ≤ C ∧ C < 6) {g : Int} (hg : 0 ≤ g ∧ g ≤ 2) : ∃ V2 W2, hS 799 141 [vi g] (.inl (some (vi C))) V V2 ∧ hS 799 141 [vi g] (.inl (some (vi C))) W W2 ∧ hY V2 W2 ∧ hZ0 (zm V2) 1 B (C + 1) ∧ hCt V V2 ∧ hCt W W2 := by
  obtain ⟨z2, z4, z16, z50, z65, z76, z39⟩ := id z
  have v : ∀ V : zS, qHC V → zm V 37 76 = C → ∃ V1, zD 799 141 (vr 3 :: [vi g]) V = some (.inl (some (vi C)), V1) ∧ zm V1 3 11 = C + 1 := fun V hV h76 => by
    obtain ⟨⟨⟨⟨hK, hP, hL, hn⟩, ⟨hT, hC', hR, hk⟩, hPo, hY⟩, hBB⟩, hYC, hFc⟩ := id hV
    have q := cv_reader 799 V g (by decide) hK hP hPo.2.2.2.2.1.1 hn hg (by omega)
    rw [h76] at q
    exact q
  have e37 := hY_37 h
  obtain ⟨V2, W2, s1, s2, y, q, ⟨k1, k2⟩, e⟩ := h_st h (n := 76) (k := C) (i := 11) (as := [vi g]) (by rfl) (by rfl) trivial (z0_141 799 (by decide) h.2.1 g) (z0_141 799 (by decide) h.2.2.1 g) (v V h.2.1 z76) (v W h.2.2.1 (by rw [← e37]; exact z76))
  exact ⟨V2, W2, s1, s2, y, hZ0_u z q (by decide) ((q.2.1 4 (by decide) (by decide)).trans z4) ((q.2.1 16 (by decide) (by decide)).trans z16) (by rw [← y.2.1.1.1.2.2.1.2.2.2.2.1.1.1, e]), k1, k2⟩
/-- a book and two readers in both houses -/
theorem hl_pair {V W : zS} (h : hY V W) (v0 : Int) {k : Int} (hk : k = 0 ∨ k = 1) (z : hZ0 (zm V) 1 k (2 * k)) {c w : Nat} (nx : ∀ V W, hY V W → hZ0 (zm V) 1 (k + 1) (2 * k + 1 + 1) → hEn c w V W (fun a b Z => zF_355 799 46 [vr 1, vr a, vr b, vi v0, vi 1, vi (k + 1), vu, vu, vu, vu] [] Z)) :
    hEn (3000 + c) (12000 + w) V W (fun a b Z => zF_355 799 46 [vr 1, vr a, vr b, vi v0, vi 1, vi k, vu, vu, vu, vu] [] Z) := by
  have z2k : z32 (2 * k) = 2 * k := q32 (by omega)
  have z2k1 : z32 (2 * k + 1) = 2 * k + 1 := q32 (by omega)
  have zm2 : z32 (2 - k) = 2 - k := q32 (by omega)
  have zk1 : z32 (k + 1) = k + 1 := q32 (by omega)
  obtain ⟨X, hX⟩ : ∃ X, lo (zshr v0 (z32 (3 * k))) 5 = X := ⟨_, rfl⟩
  obtain ⟨Y, hY0⟩ : ∃ Y, lo (zshr v0 (z32 (k + 6))) 4 = Y := ⟨_, rfl⟩
  obtain ⟨G, hG⟩ : ∃ G, lo (zshr v0 (z32 (k + 9))) 4 = G := ⟨_, rfl⟩
  have rX : 0 ≤ X ∧ X < 5 := by rw [← hX]; exact lo_r _ (by decide)
  have rY : 0 ≤ Y ∧ Y < 4 := by rw [← hY0]; exact lo_r _ (by decide)
  have rG : 0 ≤ G ∧ G < 4 := by rw [← hG]; exact lo_r _ (by decide)
  have zX : z32 (18 + X) = 18 + X := q32 (by omega)
  have zY : z32 (3 + Y) = 3 + Y := q32 (by omega)
  obtain ⟨f, hf⟩ : ∃ f : Int, (if k = 0 then 1 else 0) = f := ⟨_, rfl⟩
  have rf : 0 ≤ f ∧ f ≤ 1 := by
    rw [← hf]
    split <;> decide
  obtain ⟨V1, W1, s1, t1, y1, z1, a1, b1⟩ := s_book h z (by omega) (g := G) (w := 18 + X) (t := 3 + Y) (b := f) (by omega) (by omega) (by omega) rf
  obtain ⟨V2, W2, s2, t2, y2, z2, a2, b2⟩ := s_reader y1 z1 (by omega) (g := k) (by omega)
  obtain ⟨V3, W3, s3, t3, y3, z3, a3, b3⟩ := s_reader y2 z2 (by omega) (g := 2 - k) (by omega)
  have h217 : hEn c w V3 W3 (fun a b Z => zF_355 799 212 [vr 1, vr a, vr b, vi v0, vu, vi k, vu, vu, vu, vu] [] Z) := (nx V3 W3 y3 z3).eq fun a b Z => by rw [b355_212, b355_217, zk1]
  have h195 : hEn (500 + c) (2000 + w) V3 W2 (fun a b Z => zF_355 799 195 [vr 1, vr a, vr b, vi v0, vu, vi k, vu, vu, vu, vu] [] Z) := hEn.b t3 y2.2.2.1 (hCt_n b3) h217 fun a b Z Z1 hz r => by rw [b355_195, zchk_pos hz, zm2, r, qcall_l, qJ_s, b355_203, z2k, z2k1, if_pos rfl]
  have h178 : hEn (500 + (500 + c)) (2000 + (2000 + w)) V2 W2 (fun a b Z => zF_355 799 178 [vr 1, vr a, vr b, vi v0, vu, vi k, vu, vu, vu, vu] [] Z) := hEn.a s3 y2.2.1 (hCt_n a3) h195 fun a b Z Z1 hz r => by rw [b355_178, zchk_pos hz, zm2, r, qcall_l, qJ_s, b355_186, z2k, z2k1, if_pos rfl]
  have h165 : hEn (500 + (500 + (500 + c))) (2000 + (2000 + (2000 + w))) V2 W1 (fun a b Z => zF_355 799 165 [vr 1, vr a, vr b, vi v0, vu, vi k, vu, vu, vu, vu] [] Z) := hEn.b t2 y1.2.2.1 (hCt_n b2) h178 fun a b Z Z1 hz r => by rw [b355_165, zchk_pos hz, r, qcall_l, qJ_s, b355_171, z2k, if_pos rfl]
  have h152 : hEn (500 + (500 + (500 + (500 + c)))) (2000 + (2000 + (2000 + (2000 + w)))) V1 W1 (fun a b Z => zF_355 799 152 [vr 1, vr a, vr b, vi v0, vu, vi k, vu, vu, vu, vu] [] Z) := hEn.a s2 y1.2.1 (hCt_n a2) h165 fun a b Z Z1 hz r => by rw [b355_152, zchk_pos hz, r, qcall_l, qJ_s, b355_158, z2k, if_pos rfl]
  have h144 : hEn (500 + (500 + (500 + (500 + (500 + c))))) (2000 + (2000 + (2000 + (2000 + (2000 + w))))) V1 W (fun a b Z => zF_355 799 144 [vr 1, vr a, vr b, vi v0, vu, vi k, vu, vu, vu, vu] [vi f, vi (3 + Y), vi (18 + X), vi G, vi 0, vr b] Z) := hEn.b t1 h.2.2.1 (hCt_n b1) h152 fun a b Z Z1 hz r => by rw [b355_144, zchk_pos hz, r, qcall_l, qJ_s, b355_147, if_pos rfl]
  have h126 : hEn (500 + (500 + (500 + (500 + (500 + c))))) (2000 + (2000 + (2000 + (2000 + (2000 + w))))) V1 W (fun a b Z => zF_355 799 126 [vr 1, vr a, vr b, vi v0, vu, vi k, vi (18 + X), vi (3 + Y), vi G, vu] [] Z) := h144.eq fun a b Z => by
    rw [b355_126]
    by_cases c0 : k = 0
    · rw [if_pos c0] at hf
      rw [if_pos c0, b355_139, hf]
    · rw [if_neg c0] at hf
      rw [if_neg c0, b355_143, hf]
  have h118 : hEn (500 + (500 + (500 + (500 + (500 + (500 + c)))))) (2000 + (2000 + (2000 + (2000 + (2000 + (2000 + w)))))) V W (fun a b Z => zF_355 799 118 [vr 1, vr a, vr b, vi v0, vu, vi k, vi (18 + X), vi (3 + Y), vi G, vu] [vi f, vi (3 + Y), vi (18 + X), vi G, vi 0, vr a] Z) := hEn.a s1 h.2.1 (hCt_n a1) h126 fun a b Z Z1 hz r => by rw [b355_118, zchk_pos hz, r, qcall_l, qJ_s, b355_121, if_pos rfl]
  refine (h118.eq fun a b Z => ?_).up (by omega) (by omega)
  have l1 : zDr 799 343 [vi (zshr v0 (z32 (3 * k))), vi 5] Z = some (.inl (some (vi X)), Z) := by rw [← hX]; exact l_low 798 _ _ _ (by decide)
  have l2 : zDr 799 343 [vi (zshr v0 (z32 (k + 6))), vi 4] Z = some (.inl (some (vi Y)), Z) := by rw [← hY0]; exact l_low 798 _ _ _ (by decide)
  have l3 : zDr 799 343 [vi (zshr v0 (z32 (k + 9))), vi 4] Z = some (.inl (some (vi G)), Z) := by rw [← hG]; exact l_low 798 _ _ _ (by decide)
  rw [b355_46, if_pos (by omega), b355_52, if_neg (by decide), b355_57, l1, qcall_l, qJ_s, b355_69, l2, qcall_l, qJ_s, b355_84, l3, qcall_l, qJ_s, b355_98, zX, zY]
  by_cases c0 : k = 0
  · rw [if_pos c0] at hf
    rw [if_pos c0, b355_113, hf]
  · rw [if_neg c0] at hf
    rw [if_neg c0, b355_117, hf]
theorem hl_start {V W : zS} (h : hY V W) (z : hZ0 (zm V) 0 0 0) : hEn 222000 1100000 V W (fun a b Z => zF_355 799 15 [vr 1, vr a, vu, vu, vu, vu, vu, vu, vu, vu] [vr b] Z) := by
  obtain ⟨V1, W1, s1, t1, y1, z1, a1, b1⟩ := s_code h z
  have h21 : ∀ v0 : Int, hEn 222000 1100000 V W (fun a b Z => zF_355 799 21 [vr 1, vr a, vr b, vu, vu, vu, vu, vu, vu, vu] [vi v0] Z) := fun v0 => by
    have h46 : hEn (3000 + (3000 + (1429 * 150 + 426))) (12000 + (12000 + (6574 * 150 + 2556))) V1 W1 (fun a b Z => zF_355 799 46 [vr 1, vr a, vr b, vi v0, vi 1, vi 0, vu, vu, vu, vu] [] Z) := hl_pair y1 v0 (Or.inl rfl) z1 fun V W y z => hl_pair y v0 (Or.inr rfl) z fun V W y z =>
      (hl_loop 150 0 V W ⟨y, hZ0_I z, z.1, by rw [z.2.2.1]; decide⟩ (Int.le_refl _) (by decide)).eq fun a b Z => by rw [b355_46, if_neg (by decide), b355_225]
    have h29 : hEn (500 + (3000 + (3000 + (1429 * 150 + 426)))) (2000 + (12000 + (12000 + (6574 * 150 + 2556)))) V1 W (fun a b Z => zF_355 799 29 [vr 1, vr a, vr b, vi v0, vu, vu, vu, vu, vu, vu] [] Z) := hEn.b t1 h.2.2.1 (hCt_n b1) h46 fun a b Z Z1 hz r => by rw [b355_29, zchk_pos hz, r, qcall_l, qJ_s, b355_33, if_pos rfl, b355_36, b355_41]
    exact (hEn.a s1 h.2.1 (hCt_n a1) h29 fun a b Z Z1 hz r => by rw [b355_21, zchk_pos hz, r, qcall_l, qJ_s, b355_26, if_pos rfl]).up (by decide) (by decide)
  intro Z a b hh k1
  obtain ⟨v, hv⟩ := l_cell 798 Z k1 0 (Int.le_refl _)
  have hv : zDr 799 342 [vr 1, vi 0] Z = some (.inl (some (vi v)), Z) := hv
  obtain ⟨Z2, r, c2, w2⟩ := h21 v Z a b hh k1
  have e : zF_355 799 15 [vr 1, vr a, vu, vu, vu, vu, vu, vu, vu, vu] [vr b] Z = zF_355 799 21 [vr 1, vr a, vr b, vu, vu, vu, vu, vu, vu, vu] [vi v] Z := by rw [b355_15, hv, qcall_l, qJ_s]
  exact ⟨Z2, e.trans r, c2, w2⟩
/-- the law answers yes -/
theorem law_run (L : Nat) (sc : Int → Int) : ∃ S1, zDr 800 355 [vr 1] (zS0 L sc) = some (.inl (some (vi 1)), S1) ∧ zc S1 ≤ 300000 ∧ zw S1 ≤ 3000000 := by
  obtain ⟨V, Z1, Z2, q1, hne, p1, hh, hV, z, k1, c1, w1⟩ := h_two L sc
  have y : hY V V := ⟨⟨Z2, 3, _, hh⟩, hV, hV, fun _ _ => rfl⟩
  obtain ⟨S1, r, c2, w2⟩ := hl_start y z Z2 3 _ hh (by rw [k1])
  have n3 : (zn (zS0 L sc) : Int) = 3 := rfl
  have cr := cn_r hV
  refine ⟨S1, ?_, by omega, by omega⟩
  have e : zDr 800 355 [vr 1] (zS0 L sc) = zF_355 799 15 [vr 1, vr 3, vu, vu, vu, vu, vu, vu, vu, vu] [vr (zn Z1 : Int)] Z2 := by
    rw [show (800 : Nat) = 799 + 1 from rfl, zDr_355, b355_0, n3, zchk_pos (by decide), q1, qretn_l, qV0, b355_7, zchk_pos hne, p1, qretn_l, qV0]
  exact e.trans r
