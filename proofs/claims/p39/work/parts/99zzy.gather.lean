/-! Felt cells are gathered, and what was read is compared: the class. -/
def qgl (F : Int → Int) (n : Nat) : List Int := (List.range n).map fun i : Nat => F (i : Int)
theorem qgl_l (F : Int → Int) (n : Nat) : (qgl F n).length = n := by
  unfold qgl
  rw [List.length_map, List.length_range]
theorem qgl_s (F : Int → Int) (n : Nat) : qgl F (n + 1) = qgl F n ++ [F (n : Int)] := by
  unfold qgl
  rw [List.range_succ, List.map_append]
  rfl
theorem qgl_n (F : Int → Int) (n : Nat) (i : Int) (h : 0 ≤ i ∧ i < (n : Int)) : qnth (qgl F n) i = F i := by
  unfold qgl qnth
  rw [List.getD_eq_getElem?_getD, List.getElem?_map, List.getElem?_range (show i.toNat < n by omega)]
  show F ((i.toNat : Nat) : Int) = F i
  rw [show ((i.toNat : Nat) : Int) = i by omega]
theorem qgl_A {m : Int → Int → Int} {b : Int} {F : Int → Int} {n : Nat} (h : ∀ i, 0 ≤ i → i < (n : Int) → m b i = F i) : qA m b (qgl F n) := by
  intro i v hv
  unfold qgl at hv
  rw [List.getElem?_map] at hv
  by_cases hi : i < n
  · rw [List.getElem?_range hi] at hv
    rw [h i (by omega) (by omega)]
    exact Option.some.inj hv
  · rw [List.getElem?_eq_none (by rw [List.length_range]; omega)] at hv
    exact absurd hv (by simp)
theorem z32_a {a i : Int} (h : 0 ≤ a ∧ a ≤ 1000) (hi : 0 ≤ i ∧ i ≤ 16) : z32 (a + i) = a + i := q32 (by omega)
theorem z32_m {a i : Int} (h : 0 ≤ a ∧ a ≤ 1000) (hi : 0 ≤ i ∧ i ≤ 16) : z32 (i - a) = i - a := q32 (by omega)
theorem z32_1 {a : Int} (h : 0 ≤ a ∧ a ≤ 1000) : z32 (a + 1) = a + 1 := q32 (by omega)
theorem s_gather (d : Nat) (S : zS) (x y t v wa wb wc mk con pg ln pl ps sp : Int) (L E : List Int) (n : Nat) (F : Int → Int) (h : 3 ≤ d) (hv : 103 ≤ v) (hy : 103 ≤ y) (hx : 103 ≤ x) (hwa : 103 ≤ wa) (kv : zk S v = (21, 0)) (ky : zk S y = (24, 0)) (kx : zk S x = (20, 0)) (y1 : zm S y 1 = x) (x4 : zm S x 4 = t) (v1 : zm S v 1 = wa) (v2 : zm S v 2 = pg) (v3 : zm S v 3 = ln) (v4 : zm S v 4 = pl) (v5 : zm S v 5 = ps) (hw : qWk S wa wb wc) (hp : qWp (zm S) wa wb wc L mk con E) (hwb : 103 ≤ wb ∧ 103 ≤ wc) (hE : E.length ≤ 4) (hn : L.length = n) (h16 : n ≤ 16) (hsp : qlp L E ps = sp) (hs0 : 0 ≤ sp ∧ sp ≤ n) (hk : qWk S 20 21 22) (h20 : zm S 20 0 = 21) (h24 : zm S 20 4 = 22) (hr : (0 ≤ pg ∧ pg ≤ 1000) ∧ (0 ≤ ln ∧ ln ≤ 1000) ∧ (0 ≤ pl ∧ pl ≤ 1000))
    (hF1 : ∀ m, qfw 20 21 22 (zm S) m → ∀ i, 0 ≤ i → i < (n : Int) → i < sp → zD (d - 1) 41 [vr y, vi pg, vi ln, vi (pl + i)] (qW S m) = some (.inl (some (vi (F i))), qW S m))
    (hF2 : ∀ m, qfw 20 21 22 (zm S) m → ∀ i, 0 ≤ i → i < (n : Int) → ¬ i < sp → ln + 1 < t → zD (d - 1) 41 [vr y, vi pg, vi (ln + 1), vi (i - sp)] (qW S m) = some (.inl (some (vi (F i))), qW S m))
    (hF3 : ∀ m, qfw 20 21 22 (zm S) m → ∀ i, 0 ≤ i → i < (n : Int) → ¬ i < sp → ¬ ln + 1 < t → zD (d - 1) 41 [vr y, vi (pg + 1), vi 1, vi (i - sp)] (qW S m) = some (.inl (some (vi (F i))), qW S m)) :
    ∃ m', zD d 42 [vr y, vr v, vr 20] S = some (.inl none, qW S m') ∧ qfw 20 21 22 (zm S) m' ∧ qWp m' 20 21 22 (qgl F n) 0 0 [] := by
  obtain ⟨e, rfl, he⟩ := qd h
  have k20 := hk.1
  have kwa : zk S wa = (31, 0) := hw.1
  have hr1 := hr.1
  have hr2 := hr.2.1
  have hr3 := hr.2.2
  have sp1 : 0 ≤ sp ∧ sp ≤ 1000 := ⟨hs0.1, by omega⟩
  have hF1 : ∀ m, qfw 20 21 22 (zm S) m → ∀ i, 0 ≤ i → i < (n : Int) → i < sp → zD e 41 [vr y, vi pg, vi ln, vi (pl + i)] (qW S m) = some (.inl (some (vi (F i))), qW S m) := hF1
  have hF2 : ∀ m, qfw 20 21 22 (zm S) m → ∀ i, 0 ≤ i → i < (n : Int) → ¬ i < sp → ln + 1 < t → zD e 41 [vr y, vi pg, vi (ln + 1), vi (i - sp)] (qW S m) = some (.inl (some (vi (F i))), qW S m) := hF2
  have hF3 : ∀ m, qfw 20 21 22 (zm S) m → ∀ i, 0 ≤ i → i < (n : Int) → ¬ i < sp → ¬ ln + 1 < t → zD e 41 [vr y, vi (pg + 1), vi 1, vi (i - sp)] (qW S m) = some (.inl (some (vi (F i))), qW S m) := hF3
  obtain ⟨m0, r0, p0, f0⟩ := s_wrClear e S 20 21 22 [] [] (by omega) hk h20 h24
  have fr : ∀ m, qfw 20 21 22 (zm S) m → ∀ z, 103 ≤ z → m z = zm S z := fun m hf z hz => hf z (by omega) (by omega) (by omega)
  have w1 : ∀ m, qfw 20 21 22 (zm S) m → m wa 1 = (n : Int) := fun m hf => by rw [fr m hf wa hwa, hp.2.2.1, hn]
  have lp : ∀ (f i : Nat) (m : Int → Int → Int), i + f = n → qfw 20 21 22 (zm S) m → qWp m 20 21 22 (qgl F i) 0 0 [] →
      ∃ m', zF_42 e 42 [vr y, vr v, vr 20, vi sp, vi (if ln + 1 < t then 0 else 1), vi (i : Int)] [] (qW S m) = some (.inl none, qW S m') ∧ qfw 20 21 22 (zm S) m' ∧ qWp m' 20 21 22 (qgl F n) 0 0 [] := by
    intro f
    induction f with
    | zero =>
      intro i m hi hf hq
      obtain rfl : i = n := by omega
      refine ⟨m, ?_, hf, hq⟩
      have e1 : m v 1 = wa := by rw [fr m hf v hv, v1]
      have e2 := w1 m hf
      rw [b42_42]
      simp (config := { maxSteps := 2000000 }) (disch := first | (simp only [kv, e1, kwa, qb_in, qkW, qmW, qnW, true_and, and_true, or_self, true_or, or_true, and_self]; done) | omega | (simp only [kv, e1, kwa, qb_in, qkW, qmW, qnW, true_and, and_true, or_self, true_or, or_true, and_self]; omega)) only [b42_0, b42_4, b42_15, b42_32, b42_36, b42_37, b42_54, b42_60, b42_77, b42_80, b42_83, b42_86, b42_91, b42_104, b42_107, b42_110, b42_113, b42_128, b42_132, b42_135, b42_141, qcall_l, qcall_r, qretn_l, qJ_s, qJ_n, qV0, qEx, ↓qif0, ↓zchk_pos, ↓reduceIte, qput, qWW, qmW, qkW, qnW, kv, e1, kwa, e2, if_neg (Int.lt_irrefl (i : Int))]
    | succ f ih =>
      intro i m hi hf hq
      have iN : (i : Int) < (n : Int) := by omega
      have i0 : 0 ≤ (i : Int) := Int.natCast_nonneg i
      have e1 : m v 1 = wa := by rw [fr m hf v hv, v1]
      have e2 := w1 m hf
      have e3 : m v 2 = pg := by rw [fr m hf v hv, v2]
      have e4 : m v 3 = ln := by rw [fr m hf v hv, v3]
      have e5 : m v 4 = pl := by rw [fr m hf v hv, v4]
      obtain ⟨m1, r1, p1, f1⟩ := s_wrAppend e (qW S m) 20 21 22 0 0 (F (i : Int)) (qgl F i) [] (by omega) hk hq (by rw [qgl_l]; omega)
      rw [← qgl_s] at p1
      obtain ⟨m', r, q⟩ := ih (i + 1) m1 (by omega) (qfw_t hf f1) p1
      have i16 : (i : Int) ≤ 16 := Int.ofNat_le.mpr (Nat.le_of_lt (Nat.lt_of_lt_of_le (Int.ofNat_lt.mp iN) h16))
      have z1 : z32 ((i : Int) + 1) = ((i + 1 : Nat) : Int) := z32_1 ⟨i0, Int.le_trans i16 (by decide)⟩
      have z2 : z32 (pl + (i : Int)) = pl + i := z32_a hr3 ⟨i0, i16⟩
      have z3 : z32 ((i : Int) - sp) = i - sp := z32_m sp1 ⟨i0, i16⟩
      have z4 : z32 (ln + 1) = ln + 1 := z32_1 hr2
      have z5 : z32 (pg + 1) = pg + 1 := z32_1 hr1
      refine ⟨m', ?_, q⟩
      rw [b42_42]
      by_cases c1 : (i : Int) < sp
      · have hc := hF1 m hf i i0 iN c1
        clear hF1 hF2 hF3 ih hr hr1 hr2 hr3 hs0 sp1 hE hp hsp hn h16 i16
        simp (config := { maxSteps := 2000000 }) (disch := first | (simp only [kv, ky, k20, kwa, e1, qb_in, qkW, qmW, qnW, true_and, and_true, or_self, true_or, or_true, and_self]; done) | omega | (simp only [kv, ky, k20, kwa, e1, qb_in, qkW, qmW, qnW, true_and, and_true, or_self, true_or, or_true, and_self]; omega)) only [b42_0, b42_4, b42_15, b42_32, b42_36, b42_37, b42_54, b42_60, b42_77, b42_80, b42_83, b42_86, b42_91, b42_104, b42_107, b42_110, b42_113, b42_128, b42_132, b42_135, b42_141, qcall_l, qcall_r, qretn_l, qJ_s, qJ_n, qV0, qEx, ↓qif0, ↓zchk_pos, ↓reduceIte, qput, qWW, qmW, qkW, qnW, kv, ky, k20, kwa, e1, e2, e3, e4, e5, if_pos iN, if_pos c1, z2, hc, r1, z1]
        exact r
      · by_cases c2 : ln + 1 < t
        · have hc := hF2 m hf i i0 iN c1 c2
          rw [if_pos c2] at r ⊢
          clear hF1 hF2 hF3 ih hr hr1 hr2 hr3 hs0 sp1 hE hp hsp hn h16 i16
          simp (config := { maxSteps := 2000000 }) (disch := first | (simp only [kv, ky, k20, kwa, e1, qb_in, qkW, qmW, qnW, true_and, and_true, or_self, true_or, or_true, and_self]; done) | omega | (simp only [kv, ky, k20, kwa, e1, qb_in, qkW, qmW, qnW, true_and, and_true, or_self, true_or, or_true, and_self]; omega)) only [b42_0, b42_4, b42_15, b42_32, b42_36, b42_37, b42_54, b42_60, b42_77, b42_80, b42_83, b42_86, b42_91, b42_104, b42_107, b42_110, b42_113, b42_128, b42_132, b42_135, b42_141, qcall_l, qcall_r, qretn_l, qJ_s, qJ_n, qV0, qEx, ↓qif0, ↓zchk_pos, ↓reduceIte, qput, qWW, qmW, qkW, qnW, kv, ky, k20, kwa, e1, e2, e3, e4, e5, if_pos iN, if_neg c1, z3, z4, hc, r1, z1]
          exact r
        · have hc := hF3 m hf i i0 iN c1 c2
          rw [if_neg c2] at r ⊢
          clear hF1 hF2 hF3 ih hr hr1 hr2 hr3 hs0 sp1 hE hp hsp hn h16 i16
          simp (config := { maxSteps := 2000000 }) (disch := first | (simp only [kv, ky, k20, kwa, e1, qb_in, qkW, qmW, qnW, true_and, and_true, or_self, true_or, or_true, and_self]; done) | omega | (simp only [kv, ky, k20, kwa, e1, qb_in, qkW, qmW, qnW, true_and, and_true, or_self, true_or, or_true, and_self]; omega)) only [b42_0, b42_4, b42_15, b42_32, b42_36, b42_37, b42_54, b42_60, b42_77, b42_80, b42_83, b42_86, b42_91, b42_104, b42_107, b42_110, b42_113, b42_128, b42_132, b42_135, b42_141, qcall_l, qcall_r, qretn_l, qJ_s, qJ_n, qV0, qEx, ↓qif0, ↓zchk_pos, ↓reduceIte, qput, qWW, qmW, qkW, qnW, kv, ky, k20, kwa, e1, e2, e3, e4, e5, if_pos iN, if_neg c1, z3, z5, hc, r1, z1, Int.reduceEq]
          exact r
  have fr0 := fr m0 f0
  have lop := s_lengthOfParts e (qW S m0) wa wb wc L E mk con ps (by omega) hw (qWp_o hp (fr0 wa hwa) (fr0 wb hwb.1) (fr0 wc hwb.2)) hE
  rw [hsp] at lop
  obtain ⟨m', r, q⟩ := lp n 0 m0 (by omega) f0 p0
  have r : zF_42 e 42 [vr y, vr v, vr 20, vi sp, vi (if ln + 1 < t then 0 else 1), vi 0] [] (qW S m0) = some (.inl none, qW S m') := r
  refine ⟨m', ?_, q⟩
  have e1 : m0 v 1 = wa := by rw [fr0 v hv, v1]
  have e2 : m0 v 5 = ps := by rw [fr0 v hv, v5]
  have e4 : m0 v 3 = ln := by rw [fr0 v hv, v3]
  have e6 : m0 y 1 = x := by rw [fr0 y hy, y1]
  have e7 : m0 x 4 = t := by rw [fr0 x hx, x4]
  have z4 : z32 (ln + 1) = ln + 1 := z32_1 hr2
  clear hr hr1 hr2 hr3 hs0 sp1 hE hp hsp hn h16 fr w1
  clear hF1 hF2 hF3 lp
  by_cases c2 : ln + 1 < t
  · rw [if_pos c2] at r
    simp (config := { maxSteps := 2000000 }) (disch := first | (simp only [kv, ky, kx, k20, kwa, e1, e6, qb_in, qkW, qmW, qnW, true_and, and_true, or_self, true_or, or_true, and_self]; done) | omega | (simp only [kv, ky, kx, k20, kwa, e1, e6, qb_in, qkW, qmW, qnW, true_and, and_true, or_self, true_or, or_true, and_self]; omega)) only [zD_42, b42_0, b42_4, b42_15, b42_32, b42_36, b42_37, b42_54, b42_60, b42_77, b42_80, b42_83, b42_86, b42_91, b42_104, b42_107, b42_110, b42_113, b42_128, b42_132, b42_135, b42_141, qcall_l, qcall_r, qretn_l, qJ_s, qJ_n, qV0, qEx, ↓qif0, ↓zchk_pos, ↓reduceIte, qput, qWW, qmW, qkW, qnW, kv, ky, kx, k20, kwa, r0, e1, e2, e4, e6, e7, lop, z4, if_pos c2, r]
  · rw [if_neg c2] at r
    simp (config := { maxSteps := 2000000 }) (disch := first | (simp only [kv, ky, kx, k20, kwa, e1, e6, qb_in, qkW, qmW, qnW, true_and, and_true, or_self, true_or, or_true, and_self]; done) | omega | (simp only [kv, ky, kx, k20, kwa, e1, e6, qb_in, qkW, qmW, qnW, true_and, and_true, or_self, true_or, or_true, and_self]; omega)) only [zD_42, b42_0, b42_4, b42_15, b42_32, b42_36, b42_37, b42_54, b42_60, b42_77, b42_80, b42_83, b42_86, b42_91, b42_104, b42_107, b42_110, b42_113, b42_128, b42_132, b42_135, b42_141, qcall_l, qcall_r, qretn_l, qJ_s, qJ_n, qV0, qEx, ↓qif0, ↓zchk_pos, ↓reduceIte, qput, qWW, qmW, qkW, qnW, kv, ky, kx, k20, kwa, r0, e1, e2, e4, e6, e7, lop, z4, if_neg c2, r]
/-- big letters of a spelling -/
def qcb (L : List Int) (dg bg : Int) : Int := if dg = 0 then (if bg = 2 then (L.length : Int) else bg) else 0
theorem s_countBig (d : Nat) (S : zS) (a b st dg bg mk : Int) (L : List Int) (h : 1 ≤ d) (hk : zk S a = (28, 0)) (hs : qSq (zm S) a b L st dg bg mk) : zD d 85 [vr a] S = some (.inl (some (vi (qcb L dg bg))), S) := by
  obtain ⟨e, rfl, -⟩ := qd h
  obtain ⟨p0, p1, p2, p3, p4, p5, p6⟩ := hs
  unfold qcb
  by_cases c1 : dg = 0
  · rw [if_pos c1]
    by_cases c2 : bg = 2
    · rw [if_pos c2]
      simp (config := { maxSteps := 2000000 }) (disch := first | omega | (simp only [hk, qb_in, qkW, qmW, qnW, true_and, and_true, or_self, true_or, or_true, and_self]; done) | (simp only [hk, qb_in, qkW, qmW, qnW, true_and, and_true, or_self, true_or, or_true, and_self]; omega)) only [zD_85, b85_0, b85_7, b85_11, b85_19, b85_26, b85_30, qcall_l, qcall_r, qretn_l, qJ_s, qJ_n, qV0, qEx, ↓qif0, ↓zchk_pos, ↓reduceIte, qput, qWW, qmW, qkW, qnW, hk, p3, if_pos c1, p4, if_pos c2, p1]
    · rw [if_neg c2]
      simp (config := { maxSteps := 2000000 }) (disch := first | omega | (simp only [hk, qb_in, qkW, qmW, qnW, true_and, and_true, or_self, true_or, or_true, and_self]; done) | (simp only [hk, qb_in, qkW, qmW, qnW, true_and, and_true, or_self, true_or, or_true, and_self]; omega)) only [zD_85, b85_0, b85_7, b85_11, b85_19, b85_26, b85_30, qcall_l, qcall_r, qretn_l, qJ_s, qJ_n, qV0, qEx, ↓qif0, ↓zchk_pos, ↓reduceIte, qput, qWW, qmW, qkW, qnW, hk, p3, if_pos c1, p4, if_neg c2]
  · rw [if_neg c1]
    simp (config := { maxSteps := 2000000 }) (disch := first | omega | (simp only [hk, qb_in, qkW, qmW, qnW, true_and, and_true, or_self, true_or, or_true, and_self]; done) | (simp only [hk, qb_in, qkW, qmW, qnW, true_and, and_true, or_self, true_or, or_true, and_self]; omega)) only [zD_85, b85_0, b85_7, b85_11, b85_19, b85_26, b85_30, qcall_l, qcall_r, qretn_l, qJ_s, qJ_n, qV0, qEx, ↓qif0, ↓zchk_pos, ↓reduceIte, qput, qWW, qmW, qkW, qnW, hk, p3, if_neg c1]
theorem s_isSameWord (d : Nat) (S : zS) (a b a2 b2 st dg bg mk st2 dg2 bg2 mk2 : Int) (L L2 : List Int) (h : 2 ≤ d) (hk : qSk S a b) (hs : qSq (zm S) a b L st dg bg mk) (hk2 : qSk S a2 b2) (hs2 : qSq (zm S) a2 b2 L2 st2 dg2 bg2 mk2) (hl : L.length ≤ 10) :
    ∃ v, zD d 86 [vr a, vr a2] S = some (.inl (some (vi v)), S) ∧ (v = 0 ∨ v = 1) ∧ (v = 1 ↔ st = st2 ∧ dg = dg2 ∧ mk = mk2 ∧ qcb L dg bg = qcb L2 dg2 bg2 ∧ L = L2) := by
  obtain ⟨e, rfl, he⟩ := qd h
  have c1 := s_countBig e S a b st dg bg mk L (by omega) hk.1 hs
  have c2 := s_countBig e S a2 b2 st2 dg2 bg2 mk2 L2 (by omega) hk2.1 hs2
  obtain ⟨v, rv, hv, gv⟩ := s_areSame e S b b2 L.length L2.length 10 10 (by omega) hk.2 hk2.2 ⟨by omega, by omega, by omega⟩
  have gv : v = 1 ↔ L = L2 := gv.trans ⟨fun z => qnth_x (by have := z.1; omega) fun i i1 i2 => by
    have e1 := z.2 i i1 i2
    rw [qA_n hs.2.2.2.2.2.2 i i1 i2, qA_n hs2.2.2.2.2.2.2 i i1 (by have := z.1; omega)] at e1
    exact e1, fun z => by
      subst z
      exact ⟨rfl, fun i i1 i2 => by rw [qA_n hs.2.2.2.2.2.2 i i1 i2, qA_n hs2.2.2.2.2.2.2 i i1 i2]⟩⟩
  obtain ⟨p0, p1, p2, p3, p4, p5, -⟩ := hs
  obtain ⟨q0, q1, q2, q3, q4, q5, -⟩ := hs2
  have k1 := hk.1
  have k2 := hk2.1
  obtain ⟨u1, hu1⟩ : ∃ u, qcb L dg bg = u := ⟨_, rfl⟩
  obtain ⟨u2, hu2⟩ : ∃ u, qcb L2 dg2 bg2 = u := ⟨_, rfl⟩
  rw [hu1] at c1 ⊢
  rw [hu2] at c2 ⊢
  by_cases d1 : st = st2
  · by_cases d2 : dg = dg2
    · by_cases d3 : mk = mk2
      · by_cases d4 : u1 = u2
        · refine ⟨v, ?_, hv, gv.trans ⟨fun z => ⟨d1, d2, d3, d4, z⟩, fun z => z.2.2.2.2⟩⟩
          rcases hv with rfl | rfl <;> simp (config := { maxSteps := 2000000 }) (disch := first | omega | (simp only [k1, k2, qb_in, qkW, qmW, qnW, true_and, and_true, or_self, true_or, or_true, and_self]; done) | (simp only [k1, k2, qb_in, qkW, qmW, qnW, true_and, and_true, or_self, true_or, or_true, and_self]; omega)) only [zD_86, b86_0, b86_11, b86_22, b86_33, b86_37, b86_41, b86_44, b86_63, b86_66, b86_70, b86_71, qcall_l, qcall_r, qretn_l, qJ_s, qJ_n, qV0, qEx, ↓qif0, ↓zchk_pos, ↓reduceIte, qput, qWW, qmW, qkW, qnW, k1, k2, p0, p1, p2, p3, p5, q0, q1, q2, q3, q5, if_pos d1, if_pos d2, if_pos d3, c1, c2, if_pos d4, rv, Int.reduceEq, Int.reduceLE, true_and, and_self]
        · refine ⟨0, ?_, Or.inl rfl, ⟨fun z => absurd z (by decide), fun z => absurd z.2.2.2.1 d4⟩⟩
          simp (config := { maxSteps := 2000000 }) (disch := first | omega | (simp only [k1, k2, qb_in, qkW, qmW, qnW, true_and, and_true, or_self, true_or, or_true, and_self]; done) | (simp only [k1, k2, qb_in, qkW, qmW, qnW, true_and, and_true, or_self, true_or, or_true, and_self]; omega)) only [zD_86, b86_0, b86_11, b86_22, b86_33, b86_37, b86_41, b86_44, b86_63, b86_66, b86_70, b86_71, qcall_l, qcall_r, qretn_l, qJ_s, qJ_n, qV0, qEx, ↓qif0, ↓zchk_pos, ↓reduceIte, qput, qWW, qmW, qkW, qnW, k1, k2, p2, p3, p5, q2, q3, q5, if_pos d1, if_pos d2, if_pos d3, c1, c2, if_neg d4, Int.reduceLE, true_and, and_self]
      · refine ⟨0, ?_, Or.inl rfl, ⟨fun z => absurd z (by decide), fun z => absurd z.2.2.1 d3⟩⟩
        simp (config := { maxSteps := 2000000 }) (disch := first | omega | (simp only [k1, k2, qb_in, qkW, qmW, qnW, true_and, and_true, or_self, true_or, or_true, and_self]; done) | (simp only [k1, k2, qb_in, qkW, qmW, qnW, true_and, and_true, or_self, true_or, or_true, and_self]; omega)) only [zD_86, b86_0, b86_11, b86_22, b86_33, b86_37, b86_41, b86_44, b86_63, b86_66, b86_70, b86_71, qcall_l, qcall_r, qretn_l, qJ_s, qJ_n, qV0, qEx, ↓qif0, ↓zchk_pos, ↓reduceIte, qput, qWW, qmW, qkW, qnW, k1, k2, p2, p3, p5, q2, q3, q5, if_pos d1, if_pos d2, if_neg d3, Int.reduceLE, true_and, and_self]
    · refine ⟨0, ?_, Or.inl rfl, ⟨fun z => absurd z (by decide), fun z => absurd z.2.1 d2⟩⟩
      simp (config := { maxSteps := 2000000 }) (disch := first | omega | (simp only [k1, k2, qb_in, qkW, qmW, qnW, true_and, and_true, or_self, true_or, or_true, and_self]; done) | (simp only [k1, k2, qb_in, qkW, qmW, qnW, true_and, and_true, or_self, true_or, or_true, and_self]; omega)) only [zD_86, b86_0, b86_11, b86_22, b86_33, b86_37, b86_41, b86_44, b86_63, b86_66, b86_70, b86_71, qcall_l, qcall_r, qretn_l, qJ_s, qJ_n, qV0, qEx, ↓qif0, ↓zchk_pos, ↓reduceIte, qput, qWW, qmW, qkW, qnW, k1, k2, p2, p3, q2, q3, if_pos d1, if_neg d2, Int.reduceLE, true_and, and_self]
  · refine ⟨0, ?_, Or.inl rfl, ⟨fun z => absurd z (by decide), fun z => absurd z.1 d1⟩⟩
    simp (config := { maxSteps := 2000000 }) (disch := first | omega | (simp only [k1, k2, qb_in, qkW, qmW, qnW, true_and, and_true, or_self, true_or, or_true, and_self]; done) | (simp only [k1, k2, qb_in, qkW, qmW, qnW, true_and, and_true, or_self, true_or, or_true, and_self]; omega)) only [zD_86, b86_0, b86_11, b86_22, b86_33, b86_37, b86_41, b86_44, b86_63, b86_66, b86_70, b86_71, qcall_l, qcall_r, qretn_l, qJ_s, qJ_n, qV0, qEx, ↓qif0, ↓zchk_pos, ↓reduceIte, qput, qWW, qmW, qkW, qnW, k1, k2, p2, q2, if_neg d1, Int.reduceLE, true_and, and_self]
