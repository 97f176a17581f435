/-! The law goes its way. -/
def hEn (c w : Nat) (V W : zS) (F : Int → Int → zS → zR) : Prop := ∀ Z a b, hH a b Z V W → (zk Z 1).1 = 40 → ∃ Z2, F a b Z = some (.inl (some (vi 1)), Z2) ∧ zc Z2 ≤ zc Z + c ∧ (zw Z2 : Int) ≤ zw Z + w + 15000 * (48 - cn V - cn W)
theorem hEn.eq {c w : Nat} {V W : zS} {F F' : Int → Int → zS → zR} (h : hEn c w V W F') (hF : ∀ a b Z, F a b Z = F' a b Z) : hEn c w V W F := fun Z a b hh k1 => by
  obtain ⟨Z2, r, c1, w1⟩ := h Z a b hh k1
  exact ⟨Z2, (hF a b Z).trans r, c1, w1⟩
theorem hEn.up {c w c' w' : Nat} {V W : zS} {F : Int → Int → zS → zR} (h : hEn c w V W F) (h1 : c ≤ c') (h2 : w ≤ w') : hEn c' w' V W F := fun Z a b hh k1 => by
  obtain ⟨Z2, r, c1, w1⟩ := h Z a b hh k1
  exact ⟨Z2, r, by omega, by omega⟩
theorem k1_m {Z Z1 : zS} (hn : (2 : Int) < zn Z) (m : zmono Z Z1) (k : (zk Z 1).1 = 40) : (zk Z1 1).1 = 40 := by
  rw [m.2.2.2 1 (by omega)]
  exact k
theorem hEn.fin {V W : zS} (hV : qHC V) (hW : qHC W) {F : Int → Int → zS → zR} (hF : ∀ a b Z, F a b Z = some (.inl (some (vi 1)), Z)) : hEn 0 0 V W F := fun Z a b hh k1 =>
  ⟨Z, hF a b Z, Nat.le_refl _, by have := cn_r hV; have := cn_r hW; omega⟩
theorem hEn.a {n m c w y : Nat} {as : List zV} {o : zO} {V V2 W : zS} {F F' : Int → Int → zS → zR} (s : hS 799 y as o V V2) (hV : qHC V) (k : hCn n m V V2) (nx : hEn c w V2 W F') (hF : ∀ a b Z Z1, (zk Z a).1 = 32 → zDr 799 y (vr a :: as) Z = some (o, Z1) → F a b Z = F' a b Z1) : hEn (n + c) (m + w) V W F := fun Z a b hh k1 => by
  obtain ⟨Z1, r1, m1⟩ := s.m hh
  obtain ⟨h1, m2, m3, m4, -⟩ := id m1
  obtain ⟨Z2, r2, c2, w2⟩ := nx Z1 a b h1 (k1_m hh.n3 m2 k1)
  obtain ⟨k3, k4⟩ := k
  exact ⟨Z2, (hF a b Z Z1 (by rw [hh.ka hV]) r1).trans r2, by omega, by omega⟩
theorem hEn.b {n m c w y : Nat} {as : List zV} {o : zO} {V W W2 : zS} {F F' : Int → Int → zS → zR} (s : hS 799 y as o W W2) (hW : qHC W) (k : hCn n m W W2) (nx : hEn c w V W2 F') (hF : ∀ a b Z Z1, (zk Z b).1 = 32 → zDr 799 y (vr b :: as) Z = some (o, Z1) → F a b Z = F' a b Z1) : hEn (n + c) (m + w) V W F := fun Z a b hh k1 => by
  obtain ⟨Z1, r1, m1⟩ := s.m hh.symm
  obtain ⟨h1, m2, m3, m4, -⟩ := id m1
  obtain ⟨Z2, r2, c2, w2⟩ := nx Z1 a b h1.symm (k1_m hh.n3 m2 k1)
  obtain ⟨k3, k4⟩ := k
  exact ⟨Z2, (hF a b Z Z1 (by rw [hh.symm.ka hW]) r1).trans r2, by omega, by omega⟩
theorem hEn.ok {n c w : Nat} {V W : zS} {G : Int → zS → zR} {F F' : Int → Int → zS → zR} (k : hOk n V G) (nx : ∀ V2, hD V V2 → (∃ Z a b, hH a b Z V2 W) → hEn c w V2 W F') (hF : ∀ a b Z Z1, G a Z = some (.inl (some (vi 1)), Z1) → F a b Z = F' a b Z1) : hEn (n + c) (6 * n + w) V W F := fun Z a b hh k1 => by
  obtain ⟨V2, d, ⟨c1, c2⟩, g⟩ := k
  obtain ⟨Z1, r1, m1⟩ := g Z a b W hh
  obtain ⟨h1, m2, m3, m4, -⟩ := id m1
  obtain ⟨Z2, r2, c3, w3⟩ := nx V2 d ⟨Z1, a, b, h1⟩ Z1 a b h1 (k1_m hh.n3 m2 k1)
  have e := cn_e (d.2.2.1 37 (Or.inl (Or.inr (Or.inr (by decide)))))
  exact ⟨Z2, (hF a b Z Z1 r1).trans r2, by omega, by omega⟩
theorem hEn.okb {n c w : Nat} {V W : zS} {G : Int → zS → zR} {F F' : Int → Int → zS → zR} (k : hOk n W G) (nx : ∀ W2, hD W W2 → (∃ Z a b, hH a b Z V W2) → hEn c w V W2 F') (hF : ∀ a b Z Z1, G b Z = some (.inl (some (vi 1)), Z1) → F a b Z = F' a b Z1) : hEn (n + c) (6 * n + w) V W F := fun Z a b hh k1 => by
  obtain ⟨W2, d, ⟨c1, c2⟩, g⟩ := k
  obtain ⟨Z1, r1, m1⟩ := g Z b a V hh.symm
  obtain ⟨h1, m2, m3, m4, -⟩ := id m1
  obtain ⟨Z2, r2, c3, w3⟩ := nx W2 d ⟨Z1, a, b, h1.symm⟩ Z1 a b h1.symm (k1_m hh.n3 m2 k1)
  have e := cn_e (d.2.2.1 37 (Or.inl (Or.inr (Or.inr (by decide)))))
  exact ⟨Z2, (hF a b Z Z1 r1).trans r2, by omega, by omega⟩
theorem hEn.al {n c w : Nat} {V W : zS} {G F F' : Int → Int → zS → zR} (k : hAl n G) (y : hY V W) (nx : ∀ V2 W2, hY V2 W2 → hD V V2 → hD W W2 → hEn c w V2 W2 F') (hF : ∀ a b Z Z1, G a b Z = some (.inl (some (vi 1)), Z1) → F a b Z = F' a b Z1) : hEn (2 * n + c) (12 * n + w) V W F := fun Z a b hh k1 => by
  obtain ⟨V2, W2, ⟨y2, ⟨d1, d2⟩, ⟨c1, w1⟩, c2, w2⟩, g⟩ := k V W y
  obtain ⟨Z1, r1, h1, m2, m3, m4, -⟩ := g Z a b hh
  obtain ⟨Z2, r2, c3, w3⟩ := nx V2 W2 y2 d1 d2 Z1 a b h1 (k1_m hh.n3 m2 k1)
  have e := cn_e (d1.2.2.1 37 (Or.inl (Or.inr (Or.inr (by decide)))))
  have e' := cn_e (d2.2.2.1 37 (Or.inl (Or.inr (Or.inr (by decide)))))
  exact ⟨Z2, (hF a b Z Z1 r1).trans r2, by omega, by omega⟩
theorem zcmp_0 {x y : Int} (h : zcmp x y = 0) : x = y := by
  unfold zcmp at h
  by_cases c : x < y
  · rw [if_pos c] at h
    exact absurd h (by decide)
  · rw [if_neg c] at h
    by_cases c2 : x = y
    · exact c2
    · rw [if_neg c2] at h
      exact absurd h (by decide)
/-! What the law draws. -/
theorem l_cell (d : Nat) (Z : zS) (k1 : (zk Z 1).1 = 40) (i : Int) (h0 : 0 ≤ i) : ∃ v, zDr (d + 1) 342 [vr 1, vi i] Z = some (.inl (some (vi v)), Z) := by
  by_cases c : i < (zk Z 1).2
  · refine ⟨zm Z 1 i, ?_⟩
    rw [zDr_342, b342_0, zchk_pos (Or.inr k1), if_pos c, b342_6, zchk_pos ⟨Or.inr k1, h0, c⟩, b342_27]
  · refine ⟨z32 ((z32 (7919 * (z32 (i + 1601)))) * (z32 (i + 4099))), ?_⟩
    rw [zDr_342, b342_0, zchk_pos (Or.inr k1), if_neg c, b342_12, b342_27]
theorem l_draw (Z : zS) (a b k : Int) (k1 : (zk Z 1).1 = 40) (h0 : 0 ≤ k ∧ k < 150) (x3 x4 x6 x7 x8 x9 : zV) : ∃ (v : Int) (y : zV), zF_355 799 241 [vr 1, vr a, vr b, x3, x4, vi k, x6, x7, x8, x9] [] Z = zF_355 799 305 [vr 1, vr a, vr b, vu, vu, vi k, y, vu, vu, vu] [vi v] Z := by
  have e2 : z32 (1 + Int.tmod k 60) = 1 + k % 60 := by
    rw [Int.tmod_eq_emod_of_nonneg h0.1]
    exact q32 (by omega)
  obtain ⟨v, hv⟩ := l_cell 798 Z k1 (1 + k % 60) (by omega)
  have hv : zDr 799 342 [vr 1, vi (1 + k % 60)] Z = some (.inl (some (vi v)), Z) := hv
  obtain ⟨x, hx⟩ : ∃ x, z32 (v + (z32 (1873 * (z32 (Int.tdiv k 60))))) = x := ⟨_, rfl⟩
  have go : zF_355 799 241 [vr 1, vr a, vr b, x3, x4, vi k, x6, x7, x8, x9] [] Z = if k < 12 then zF_355 799 271 [vr 1, vr a, vr b, vu, vu, vi k, vi x, vu, vu, vu] [] Z else zF_355 799 303 [vr 1, vr a, vr b, vu, vu, vi k, vi x, vu, vu, vu] [] Z := by
    rw [b355_241, zchk_pos (by decide), e2, hv, qcall_l, qJ_s, b355_252, zchk_pos (by decide), hx]
  by_cases c : k < 12
  · have lw : zDr 799 343 [vi (zshr x 5), vi 4000] Z = some (.inl (some (vi (lo (zshr x 5) 4000))), Z) := l_low 798 _ _ _ (by decide)
    by_cases c3 : Int.tmod k 3 = 2
    · refine ⟨z32 (z32 (48 * lo (zshr x 5) 4000) + 18), vu, ?_⟩
      rw [go, if_pos c, b355_271, lw, qcall_l, qJ_s, b355_283, zchk_pos (by decide), if_pos c3, b355_292, b355_299]
    · refine ⟨z32 (z32 (48 * lo (zshr x 5) 4000) + 12), vu, ?_⟩
      rw [go, if_pos c, b355_271, lw, qcall_l, qJ_s, b355_283, zchk_pos (by decide), if_neg c3, b355_297, b355_299]
  · exact ⟨x, vi x, by rw [go, if_neg c, b355_303]⟩
/-! One step. -/
theorem hl_tail {V W : zS} (h : hLw V W) {k : Int} (hk : 0 ≤ k ∧ k < 150) {c w : Nat} (nx : ∀ V W, hLw V W → hEn c w V W (fun a b Z => zF_355 799 228 [vr 1, vr a, vr b, vu, vi 1, vi (k + 1), vu, vu, vu, vu] [] Z)) (v : Int) (x3 x7 x8 x9 : zV) :
    hEn (428 + c) (2568 + w) V W (fun a b Z => zF_355 799 369 [vr 1, vr a, vr b, x3, vi 1, vi k, vi v, x7, x8, x9] [] Z) := by
  have z1 : z32 (k + 1) = k + 1 := q32 (by omega)
  have h433 : ∀ V W, hLw V W → hEn c w V W (fun a b Z => zF_355 799 433 [vr 1, vr a, vr b, vu, vu, vi k, vu, vu, vu, vu] [] Z) := fun V W h => (nx V W h).eq fun a b Z => by rw [b355_433, b355_438, z1]
  have h426 : ∀ V W, hLw V W → hEn (20 + c) (6 * 20 + w) V W (fun a b Z => zF_355 799 426 [vr 1, vr a, vr b, vu, vu, vi k, vu, vu, vu, vu] [] Z) := fun V W h => hEn.ok (r_all 797 (by decide) h.1.2.1 h.2.1 h.1.1) (fun V2 d x => h433 V2 W (h.d d x)) fun a b Z Z1 r => by
    have r : zDr 799 353 [vr a] Z = some (.inl (some (vi 1)), Z1) := r
    rw [b355_426, r, qcall_l, qJ_s, b355_430, if_neg (by decide)]
  have h418 : ∀ V W, hLw V W → hEn (2 + (20 + c)) (6 * 2 + (6 * 20 + w)) V W (fun a b Z => zF_355 799 418 [vr 1, vr a, vr b, vu, vu, vi k, vu, vu, vu, vu] [] Z) := fun V W h => hEn.ok (o_book 797 (by decide) h.1.2.1 h.2.1.1 (b := 1) ⟨by decide, by have := h.2.2.2; omega⟩) (fun V2 d x => h426 V2 W (h.d d x)) fun a b Z Z1 r => by
    have r : zDr 799 352 [vr a, vi 1] Z = some (.inl (some (vi 1)), Z1) := r
    rw [b355_418, r, qcall_l, qJ_s, b355_423, if_neg (by decide)]
  have h410 : ∀ V W, hLw V W → hEn (2 + (2 + (20 + c))) (6 * 2 + (6 * 2 + (6 * 20 + w))) V W (fun a b Z => zF_355 799 410 [vr 1, vr a, vr b, vu, vu, vi k, vu, vu, vu, vu] [] Z) := fun V W h => hEn.ok (o_book 797 (by decide) h.1.2.1 h.2.1.1 (b := 0) ⟨by decide, by have := h.2.2.2; omega⟩) (fun V2 d x => h418 V2 W (h.d d x)) fun a b Z Z1 r => by
    have r : zDr 799 352 [vr a, vi 0] Z = some (.inl (some (vi 1)), Z1) := r
    rw [b355_410, r, qcall_l, qJ_s, b355_415, if_neg (by decide)]
  have h400 : ∀ V W, hLw V W → hEn (24 + c) (144 + w) V W (fun a b Z => zF_355 799 400 [vr 1, vr a, vr b, vu, vu, vi k, vu, vu, vu, vu] [] Z) := fun V W h => by
    by_cases c25 : Int.tmod k 25 = 21
    · exact ((h410 V W h).eq fun a b Z => by rw [b355_400, zchk_pos (by decide), if_pos c25]).up (by omega) (by omega)
    · exact ((h433 V W h).eq fun a b Z => by rw [b355_400, zchk_pos (by decide), if_neg c25]).up (by omega) (by omega)
  have h400' : ∀ (V W : zS) (x6 : zV), hLw V W → hEn (24 + c) (144 + w) V W (fun a b Z => zF_355 799 400 [vr 1, vr a, vr b, vu, vu, vi k, x6, vu, vu, vu] [] Z) := fun V W x6 h => by
    by_cases c25 : Int.tmod k 25 = 21
    · exact ((h410 V W h).eq fun a b Z => by rw [b355_400, zchk_pos (by decide), if_pos c25]).up (by omega) (by omega)
    · exact ((h433 V W h).eq fun a b Z => by rw [b355_400, zchk_pos (by decide), if_neg c25]).up (by omega) (by omega)
  by_cases c15 : Int.tmod k 15 = 14
  · have h384 : hEn (2 * 202 + (24 + c)) (12 * 202 + (144 + w)) V W (fun a b Z => zF_355 799 384 [vr 1, vr a, vr b, vu, vu, vi k, vi v, vu, vu, vu] [] Z) := hEn.al (h_are 797 (by decide) (zand (zshr v 3) 1023)) h.1 (fun V2 W2 y d1 d2 => h400 V2 W2 (h.dd d1 y)) fun a b Z Z1 r => by
      have r : zDr 799 350 [vr a, vr b, vi (zand (zshr v 3) 1023)] Z = some (.inl (some (vi 1)), Z1) := r
      rw [b355_384, r, qcall_l, qJ_s, b355_397, if_neg (by decide)]
    exact (h384.eq fun a b Z => by rw [b355_369, if_neg (by decide), b355_374, zchk_pos (by decide), if_pos c15]).up (by omega) (by omega)
  · exact ((h400' V W (vi v) h).eq fun a b Z => by rw [b355_369, if_neg (by decide), b355_374, zchk_pos (by decide), if_neg c15]).up (by omega) (by omega)
theorem hl_step {V W : zS} (h : hLw V W) {k : Int} (hk : 0 ≤ k ∧ k < 150) {c w : Nat} (nx : ∀ V W, hLw V W → hEn c w V W (fun a b Z => zF_355 799 228 [vr 1, vr a, vr b, vu, vi 1, vi (k + 1), vu, vu, vu, vu] [] Z)) :
    hEn (1429 + c) (6574 + w) V W (fun a b Z => zF_355 799 228 [vr 1, vr a, vr b, vu, vi 1, vi k, vu, vu, vu, vu] [] Z) := by
  have h305 : ∀ (v : Int) (y : zV), hEn (1429 + c) (6574 + w) V W (fun a b Z => zF_355 799 305 [vr 1, vr a, vr b, vu, vu, vi k, y, vu, vu, vu] [vi v] Z) := fun v y => by
    obtain ⟨told, sg, V2, V3, V4, s1, q1, s2, q2, s3, ⟨k1, k2, k3⟩, al⟩ := h_step h v
    have h325 : hEn (500 + (428 + c)) (2000 + (2568 + w)) V4 W (fun a b Z => zF_355 799 325 [vr 1, vr a, vr b, vu, vi 1, vi k, vi v, vl told, vu, vu] [vi sg] Z) := by
      rcases al with ⟨ct, h4⟩ | ⟨ct, W2, W4, s4, q4, s5, ⟨k4, k5⟩, h4⟩
      · exact ((hl_tail h4 hk nx v vu (vl told) vu (vi sg)).eq fun a b Z => by rw [b355_325, if_neg (by decide), b355_332, if_pos (by rw [ct]; exact zcmp_s _)]).up (by omega) (by omega)
      · have h353 : hEn (0 + (428 + c)) (0 + (2568 + w)) V4 W2 (fun a b Z => zF_355 799 353 [vr 1, vr a, vr b, vu, vu, vi k, vi v, vl told, vu, vi sg] [] Z) := hEn.b s5 q4 k5 (hl_tail h4 hk nx v vu vu vu vu) fun a b Z Z1 hz r => by rw [b355_353, zchk_pos hz, r, qcall_l, qJ_s, b355_357, if_pos rfl, b355_362, b355_367]
        have h341 : hEn (500 + (0 + (428 + c))) (2000 + (0 + (2568 + w))) V4 W (fun a b Z => zF_355 799 341 [vr 1, vr a, vr b, vu, vi 1, vi k, vi v, vl told, vu, vi sg] [] Z) := hEn.b s4 h.1.2.2.1 k4 h353 fun a b Z Z1 hz r => by rw [b355_341, r, qcall_l, qJ_s, b355_347, if_pos (zcmp_s told)]
        exact (h341.eq fun a b Z => by rw [b355_325, if_neg (by decide), b355_332, if_neg (fun q => ct (zcmp_0 q))]).up (by omega) (by omega)
    have h319 : hEn (0 + (500 + (428 + c))) (0 + (2000 + (2568 + w))) V3 W (fun a b Z => zF_355 799 319 [vr 1, vr a, vr b, vu, vu, vi k, vi v, vl told, vu, vu] [vi 1] Z) := hEn.a s3 q2 k3 h325 fun a b Z Z1 hz r => by rw [b355_319, zchk_pos hz, r, qcall_l, qJ_s]
    have h313 : hEn (1 + (0 + (500 + (428 + c)))) (6 + (0 + (2000 + (2568 + w)))) V2 W (fun a b Z => zF_355 799 313 [vr 1, vr a, vr b, vu, vu, vi k, vi v, vu, vu, vu] [vl told] Z) := hEn.a s2 q1 k2 h319 fun a b Z Z1 hz r => by rw [b355_313, r, qcall_l, qJ_s]
    exact (hEn.a s1 h.1.2.1 k1 h313 fun a b Z Z1 hz r => by rw [b355_305, r, qcall_l, qJ_s]).up (by omega) (by omega)
  intro Z a b hh k1
  obtain ⟨v, y, hv⟩ := l_draw Z a b k k1 hk vu (vi 1) vu vu vu vu
  obtain ⟨Z2, r, c2, w2⟩ := h305 v y Z a b hh k1
  have e : zF_355 799 228 [vr 1, vr a, vr b, vu, vi 1, vi k, vu, vu, vu, vu] [] Z = zF_355 799 305 [vr 1, vr a, vr b, vu, vu, vi k, y, vu, vu, vu] [vi v] Z := by rw [b355_228, if_pos hk.2, b355_236, if_neg (by decide), hv]
  exact ⟨Z2, e.trans r, c2, w2⟩
/-- the law's last questions -/
theorem hl_end {V W : zS} (h : hLw V W) : hEn 426 2556 V W (fun a b Z => zF_355 799 446 [vr 1, vr a, vr b, vu, vi 1, vi 150, vu, vu, vu, vu] [] Z) := by
  have h473 : ∀ V W, qHC V → qHC W → hEn 0 0 V W (fun _ b Z => zF_355 799 473 [vu, vu, vr b, vu, vu, vu, vu, vu, vu, vu] [vi 1] Z) := fun V W hV hW => hEn.fin hV hW fun a b Z => by rw [b355_473, if_neg (by decide), b355_476, b355_481, zchk_pos (by decide)]
  have h469 : ∀ V W, (∃ Z a b, hH a b Z V W) → qHC V → qHC W → hI (zm W) → hEn (20 + 0) (6 * 20 + 0) V W (fun a b Z => zF_355 799 469 [vu, vu, vr b, vu, vu, vu, vu, vu, vu, vu] [] Z) := fun V W hx hV hW hi => hEn.okb (r_all 797 (by decide) hW hi (hX.symm hx)) (fun W2 d x => h473 V W2 hV d.1) fun a b Z Z1 r => by
    have r : zDr 799 353 [vr b] Z = some (.inl (some (vi 1)), Z1) := r
    rw [b355_469, r, qcall_l, qJ_s]
  have h461 : ∀ V W, hLw V W → hEn (2 + (20 + 0)) (6 * 2 + (6 * 20 + 0)) V W (fun a b Z => zF_355 799 461 [vu, vu, vr b, vu, vu, vu, vu, vu, vu, vu] [] Z) := fun V W h => by
    have hi := hI_G h.1.2.2.2 h.2.1
    have h16 := h.2.2.2
    rw [hY_37 h.1] at h16
    exact hEn.okb (o_book 797 (by decide) h.1.2.2.1 hi.1 (b := 0) ⟨by decide, by omega⟩) (fun W2 d x => h469 V W2 x h.1.2.1 d.1 (hD_I d hi)) fun a b Z Z1 r => by
      have r : zDr 799 352 [vr b, vi 0] Z = some (.inl (some (vi 1)), Z1) := r
      rw [b355_461, r, qcall_l, qJ_s, b355_466, if_neg (by decide)]
  exact (hEn.al (h_are 797 (by decide) 7) h.1 (fun V2 W2 y d1 d2 => h461 V2 W2 (h.dd d1 y)) fun a b Z Z1 r => by
    have r : zDr 799 350 [vr a, vr b, vi 7] Z = some (.inl (some (vi 1)), Z1) := r
    rw [b355_446, if_neg (by decide), b355_451, r, qcall_l, qJ_s, b355_458, if_neg (by decide)]).up (by omega) (by omega)
theorem hl_loop : ∀ (g : Nat) (k : Int) (V W : zS), hLw V W → 0 ≤ k → k + g = 150 → hEn (1429 * g + 426) (6574 * g + 2556) V W (fun a b Z => zF_355 799 228 [vr 1, vr a, vr b, vu, vi 1, vi k, vu, vu, vu, vu] [] Z)
  | 0, k, V, W, h, h0, hk => by
    obtain rfl : k = 150 := by omega
    exact ((hl_end h).eq fun a b Z => by rw [b355_228, if_neg (by decide)]).up (by omega) (by omega)
  | g + 1, k, V, W, h, h0, hk => (hl_step h ⟨h0, by omega⟩ fun V W h => hl_loop g (k + 1) V W h (by omega) (by omega)).up (by omega) (by omega)
