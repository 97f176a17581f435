/-! The law's formulas, and an act in both houses. -/
theorem l_fsign (e : Nat) (x k : Int) (h0 : 0 ≤ k) (hk : k < 3 + lo x 12) : ∃ c, qst (qch c 0) ∧ ∀ (Z : zS) (a : Int), zF_349 (e + 2) 4 [vr a, vi x, vi 1, vi k, vu] [] Z = zcall (zDr (e + 2) 346 [vr a, vi c] Z) (zJ (zF_349 (e + 2) 130 [vr a, vi x, vu, vi k, vu]) []) zEx := by
  have r12 := lo_r x (show (0 : Int) < 12 by decide)
  obtain ⟨s, hs⟩ : ∃ s, lo (zshr x k) 9 = s := ⟨_, rfl⟩
  have r9 := lo_r (zshr x k) (show (0 : Int) < 9 by decide)
  rw [hs] at r9
  have go : ∀ (Z : zS) (a : Int), zF_349 (e + 2) 4 [vr a, vi x, vi 1, vi k, vu] [] Z = if zand k 1 = 0 then zF_349 (e + 2) 37 [vr a, vi x, vu, vi k, vi s] [vr a] Z else zF_349 (e + 2) 69 [vr a, vi x, vu, vi k, vi s] [vr a] Z := fun Z a => by
    rw [b349_4, l_low (e + 1) _ _ _ (by decide), qcall_l, qJ_s, b349_12, show z32 (3 + lo x 12) = 3 + lo x 12 from q32 (by omega), if_pos hk, b349_16, if_neg (by decide), b349_20, l_low (e + 1) _ _ _ (by decide), qcall_l, qJ_s, hs, b349_28]
  by_cases ev : zand k 1 = 0
  · by_cases c0 : s = 0
    · exact ⟨40, qst_c (by decide) (by decide) (by decide), fun Z a => by rw [go, if_pos ev, b349_37, if_pos c0, b349_42, b349_127]⟩
    · by_cases c3 : s < 3
      · exact ⟨49 + s, qst_c (by omega) (by omega) (by omega), fun Z a => by rw [go, if_pos ev, b349_37, if_neg c0, b349_47, if_pos c3, b349_53, show z32 (49 + s) = 49 + s from q32 (by omega), b349_127]⟩
      · exact ⟨97 + s, qst_c (by omega) (by omega) (by omega), fun Z a => by rw [go, if_pos ev, b349_37, if_neg c0, b349_47, if_neg c3, b349_61, show z32 (97 + s) = 97 + s from q32 (by omega), b349_127]⟩
  · by_cases c0 : s = 0
    · exact ⟨41, qst_c (by decide) (by decide) (by decide), fun Z a => by rw [go, if_neg ev, b349_69, if_pos c0, b349_74, b349_127]⟩
    · by_cases c3 : s < 3
      · exact ⟨43, qst_c (by decide) (by decide) (by decide), fun Z a => by rw [go, if_neg ev, b349_69, if_neg c0, b349_79, if_pos c3, b349_85, b349_127]⟩
      · by_cases c4 : s < 4
        · exact ⟨45, qst_c (by decide) (by decide) (by decide), fun Z a => by rw [go, if_neg ev, b349_69, if_neg c0, b349_79, if_neg c3, b349_90, if_pos c4, b349_96, b349_127]⟩
        · by_cases c6 : s < 6
          · exact ⟨46, qst_c (by decide) (by decide) (by decide), fun Z a => by rw [go, if_neg ev, b349_69, if_neg c0, b349_79, if_neg c3, b349_90, if_neg c4, b349_101, if_pos c6, b349_108, b349_127]⟩
          · by_cases c8 : s < 8
            · exact ⟨47, qst_c (by decide) (by decide) (by decide), fun Z a => by rw [go, if_neg ev, b349_69, if_neg c0, b349_79, if_neg c3, b349_90, if_neg c4, b349_101, if_neg c6, b349_113, if_pos c8, b349_120, b349_127]⟩
            · exact ⟨94, qst_c (by decide) (by decide) (by decide), fun Z a => by rw [go, if_neg ev, b349_69, if_neg c0, b349_79, if_neg c3, b349_90, if_neg c4, b349_101, if_neg c6, b349_113, if_neg c8, b349_125, b349_127]⟩
theorem l_fsigns (e : Nat) (x : Int) : ∀ (g : Nat) (k : Int), 0 ≤ k → k + g = 3 + lo x 12 →
    ∃ l : List Int, l.length = g ∧ (∀ c ∈ l, qst (qch c 0)) ∧ ∀ V V2, hPs (e + 1) l V V2 → ∀ Z a b W, hH a b Z V W →
      ∃ Z1, zF_349 (e + 2) 4 [vr a, vi x, vi 1, vi k, vu] [] Z = zF_349 (e + 2) 137 [vr a, vi x, vi 1, vi (3 + lo x 12), vu] [] Z1 ∧ hM a b W V V2 Z Z1
  | 0, k, h0, hk => by
    have r12 := lo_r x (show (0 : Int) < 12 by decide)
    refine ⟨[], rfl, fun c hc => absurd hc List.not_mem_nil, fun V V2 hp Z a b W hh => ?_⟩
    obtain rfl : V2 = V := hp
    refine ⟨Z, ?_, hM.rf hh⟩
    rw [b349_4, l_low (e + 1) _ _ _ (by decide), qcall_l, qJ_s, b349_12, show z32 (3 + lo x 12) = 3 + lo x 12 from q32 (by omega), if_neg (by omega), show k = 3 + lo x 12 by omega]
  | g + 1, k, h0, hk => by
    have r12 := lo_r x (show (0 : Int) < 12 by decide)
    obtain ⟨l, l1, l2, l3⟩ := l_fsigns e x g (k + 1) (by omega) (by omega)
    obtain ⟨c, hc, hgo⟩ := l_fsign e x k h0 (by omega)
    refine ⟨c :: l, by rw [List.length_cons, l1], fun y hy => ?_, fun V V2 hp Z a b W hh => ?_⟩
    · rcases List.mem_cons.mp hy with rfl | hy
      · exact hc
      · exact l2 y hy
    · obtain ⟨V1, s, hp⟩ := hp
      obtain ⟨Z1, r, m1⟩ := s.m hh
      obtain ⟨Z2, r2, m2⟩ := l3 V1 V2 hp Z1 a b W m1.1
      refine ⟨Z2, ?_, m1.tr m2⟩
      rw [hgo, r, qcall_l, qJ_s, b349_130, show z32 (k + 1) = k + 1 from q32 (by omega), r2]
def ftl (f : Int) (o1 o2 : zO) : Int := z64 (z64 (z64 (1000 * f) + res o1) + z64 (3 * res o2))
theorem l_fend (e : Nat) (x N f : Int) {V V2 V3 : zS} {o1 o2 : zO} (hV : qHC V) (hV2 : qHC V2) (h1 : aInt o1) (h2 : aInt o2) (s1 : hS (e + 2) 127 [] (.inl (some (vi f))) V V) (s2 : hS (e + 1) 128 [vi 0] o1 V V2) (s3 : hS (e + 1) 128 [vi 1] o2 V2 V3) :
    ∀ Z a b W, hH a b Z V W → ∃ Z1, zF_349 (e + 2) 137 [vr a, vi x, vi 1, vi N, vu] [] Z = some (.inl (some (vl (ftl f o1 o2))), Z1) ∧ hM a b W V V3 Z Z1 := fun Z a b W hh => by
  obtain ⟨Z1, r1, m1⟩ := s1.m hh
  obtain ⟨Z2, r2, m2⟩ := l_d11 (e + 1) 0 0 0 0 h1 s2 Z1 a b W m1.1 (m1.1.ka hV)
  obtain ⟨Z3, r3, m3⟩ := l_d11 (e + 1) 1 0 0 0 h2 s3 Z2 a b W m2.1 (m2.1.ka hV2)
  refine ⟨Z3, ?_, (m1.tr m2).tr m3⟩
  rw [b349_137, zchk_pos (by rw [hh.ka hV]), r1, qcall_l, qJ_s, b349_141, if_neg (by decide), b349_152, b349_165, r2, qcall_l, qJ_s, b349_168, r3, qcall_l, qJ_s, b349_183, b349_186]
  rfl
theorem l_form (e : Nat) (x : Int) : ∃ l : List Int, l.length ≤ 36 ∧ (∀ c ∈ l, qst (qch c 0)) ∧ ∀ (V V1 V2 V3 : zS) (f : Int) (o1 o2 : zO), qHC V1 → qHC V2 → aInt o1 → aInt o2 → hPs (e + 1) l V V1 → hS (e + 2) 127 [] (.inl (some (vi f))) V1 V1 → hS (e + 1) 128 [vi 0] o1 V1 V2 → hS (e + 1) 128 [vi 1] o2 V2 V3 → hS (e + 3) 349 [vi x] (.inl (some (vl (ftl f o1 o2)))) V V3 := by
  have r12 := lo_r x (show (0 : Int) < 12 by decide)
  obtain ⟨l, l1, l2, l3⟩ := l_fsigns e x (3 + lo x 12).toNat 0 (Int.le_refl 0) (by omega)
  refine ⟨l, by omega, l2, fun V V1 V2 V3 f o1 o2 hV1 hV2 h1 h2 hp s1 s2 s3 Z a b W hh => ?_⟩
  obtain ⟨Z1, r1, m1⟩ := l3 V V1 hp Z a b W hh
  obtain ⟨Z2, r2, m2⟩ := l_fend e x (3 + lo x 12) f hV1 hV2 h1 h2 s1 s2 s3 Z1 a b W m1.1
  exact ⟨Z2, by rw [zDr_349, b349_0, r1, r2], m1.tr m2⟩
theorem hT_37 {V V1 : zS} (h : hT V V1) (j : Int) (hj : ¬ (j = 0 ∨ j = 2)) : zm V1 37 j = zm V 37 j := h.1 37 j (by decide) (by decide) (by decide) fun q => hj q.2
theorem hY_37 {V W : zS} (h : hY V W) : zm V 37 = zm W 37 := h.2.2.2 37 (Or.inr (Or.inr (by decide)))
theorem hCt_put {V V1 V2 : zS} (e1 : zm V1 37 16 = zm V 37 16) (e2 : zm V1 37 65 = zm V 37 65) (c1 : zc V1 = zc V) (c2 : zw V1 = zw V) (h : hCt V1 V2) : hCt V V2 := by
  unfold hCt at h ⊢
  rw [c1, c2, e1, e2] at h
  exact h
/-- what an act leaves where it is refused -/
def hRf2 (d y : Nat) (as : List zV) (o : zO) (V : zS) : Prop := ∃ V1 V2, hT V V1 ∧ hD V1 V2 ∧ hS d y as o V V2 ∧ zc V2 ≤ zc V + 500 ∧ zw V2 ≤ zw V + 2000
theorem h_form {V W : zS} (h : hY V W) (h0 : zm V 37 2 = 0) (e : Nat) (he : 300 ≤ e) (x : Int) :
    ∃ told, (∃ V2 W2, hS (e + 3) 349 [vi x] (.inl (some (vl told))) V V2 ∧ hS (e + 3) 349 [vi x] (.inl (some (vl told))) W W2 ∧ hY V2 W2 ∧ hCt V V2 ∧ hCt W W2) ∧ hRf2 (e + 3) 349 [vi x] (.inl (some (vl told))) V := by
  obtain ⟨l, l1, l2, l3⟩ := l_form e x
  obtain ⟨V1, W1, p1, p2, y1, k1, t1, c1, c2, c3, c4⟩ := h_puts (e + 1) (by omega) l V W 0 h l2 h0 (by omega)
  obtain ⟨f, f1, f2⟩ := f_127s y1 (e + 2) (by omega)
  obtain ⟨o1, o1', V2, W2, al1, ⟨s1, s1'⟩, y2, ⟨d1, d1'⟩, ⟨b1, b2⟩, b3, b4⟩ := h_asks y1 (u_128 (e + 1) (by omega) 0) (a_128 (e + 1) (by omega) 0)
  obtain ⟨o2, o2', V3, W3, al2, ⟨s2, s2'⟩, y3, ⟨d2, d2'⟩, ⟨b5, b6⟩, b7, b8⟩ := h_asks y2 (u_128 (e + 1) (by omega) 1) (a_128 (e + 1) (by omega) 1)
  have i1 : aInt o1 ∧ aInt o1' ∧ res o1' = res o1 := by
    rcases al1 with ⟨v, rfl, rfl⟩ | ⟨q, q'⟩
    · exact ⟨Or.inl ⟨v, rfl⟩, Or.inl ⟨v, rfl⟩, rfl⟩
    · exact ⟨Or.inr q, Or.inr q', by rw [aX_r q, aX_r q']⟩
  have i2 : aInt o2 ∧ aInt o2' ∧ res o2' = res o2 := by
    rcases al2 with ⟨v, rfl, rfl⟩ | ⟨q, q'⟩
    · exact ⟨Or.inl ⟨v, rfl⟩, Or.inl ⟨v, rfl⟩, rfl⟩
    · exact ⟨Or.inr q, Or.inr q', by rw [aX_r q, aX_r q']⟩
  have hs := l3 V V1 V2 V3 f o1 o2 y1.2.1 y2.2.1 i1.1 i2.1 p1 f1 s1 s2
  have hs' := l3 W W1 W2 W3 f o1' o2' y1.2.2.1 y2.2.2.1 i1.2.1 i2.2.1 p2 f2 s1' s2'
  rw [show ftl f o1' o2' = ftl f o1 o2 by unfold ftl; rw [i1.2.2, i2.2.2]] at hs'
  have d := d1.tr d2
  have e37 : zm V3 37 = zm V1 37 := d.2.2.1 37 (Or.inl (Or.inr (Or.inr (by decide))))
  have g16 : zm V3 37 16 = zm V 37 16 := by rw [e37]; exact hT_37 t1 16 (by decide)
  have g65 : zm V3 37 65 = zm V 37 65 := by rw [e37]; exact hT_37 t1 65 (by decide)
  have eW := hY_37 h
  have eW3 := hY_37 y3
  refine ⟨ftl f o1 o2, ⟨V3, W3, hs, hs', y3, ⟨by omega, by rw [g16, g65]; omega⟩, by omega, by rw [← eW, ← eW3, g16, g65]; omega⟩, V1, V3, t1, d, hs, by omega, by omega⟩
/-- an act in both houses -/
theorem h_act {V W : zS} (h : hY V W) (h0 : zm V 37 2 = 0) (e : Nat) (he : 300 ≤ e) (v : Int) :
    ∃ told, (told ≠ -9999999 → ∃ V2 W2, hS (e + 4) 348 [vi v] (.inl (some (vl told))) V V2 ∧ hS (e + 4) 348 [vi v] (.inl (some (vl told))) W W2 ∧ hY V2 W2 ∧ hCt V V2 ∧ hCt W W2) ∧ (told = -9999999 → hRf2 (e + 4) 348 [vi v] (.inl (some (vl told))) V) := by
  have hV := h.2.1
  rcases g348_0 e v with ⟨l, l1, l2, l3⟩ | ⟨x, hx⟩
  · obtain ⟨V1, W1, p1, p2, y1, k1, t1, c1, c2, c3, c4⟩ := h_puts (e + 1) (by omega) l V W 0 h l2 h0 (by omega)
    have g16 := hT_37 t1 16 (by decide)
    have g65 := hT_37 t1 65 (by decide)
    have eW := hY_37 h
    have eW1 := hY_37 y1
    rcases l3 with ⟨y, as, hf, l3⟩ | ⟨r, l3⟩
    · obtain ⟨o, ho, q1, q2⟩ := h_fin y1 (e := e + 2) (by omega) hf
      have go : ∀ V V1 V2, qHC V → hPs (e + 1) l V V1 → hS (e + 2) y as o V1 V2 → hS (e + 4) 348 [vi v] (.inl (some (vl (res o)))) V V2 := fun V V1 V2 hV hp hs Z a b W hh => by
        obtain ⟨Z1, r, m⟩ := l3 V V1 V2 o hp ho hs Z a b W hh (hh.ka hV)
        exact ⟨Z1, by rw [zDr_348]; exact r, m⟩
      refine ⟨res o, fun hn => ?_, fun hn => ?_⟩
      · obtain ⟨V2, W2, s1, s2, y2, k1, k2⟩ := q1 hn
        exact ⟨V2, W2, go V V1 V2 hV p1 s1, go W W1 W2 h.2.2.1 p2 s2, y2, hCt_put g16 g65 c1 c2 k1, hCt_put (by rw [← eW1, ← eW, g16]) (by rw [← eW1, ← eW, g65]) c3 c4 k2⟩
      · obtain ⟨V2, s1, d1, k1, k2⟩ := q2 hn
        exact ⟨V1, V2, t1, d1, go V V1 V2 hV p1 s1, by omega, by omega⟩
    · have go : ∀ V V1, qHC V → hPs (e + 1) l V V1 → hS (e + 4) 348 [vi v] (.inl (some (vl r))) V V1 := fun V V1 hV hp Z a b W hh => by
        obtain ⟨Z1, r, m⟩ := l3 V V1 hp Z a b W hh (hh.ka hV)
        exact ⟨Z1, by rw [zDr_348]; exact r, m⟩
      have ct : hCt V V1 := ⟨by omega, by rw [g16, g65]; omega⟩
      have ct' : hCt W W1 := ⟨by omega, by rw [← eW1, ← eW, g16, g65]; omega⟩
      exact ⟨r, fun _ => ⟨V1, W1, go V V1 hV p1, go W W1 h.2.2.1 p2, y1, ct, ct'⟩, fun _ => ⟨V1, V1, t1, hD.rf y1.2.1, go V V1 hV p1, by omega, by omega⟩⟩
  · obtain ⟨told, ⟨V2, W2, s1, s2, y2, k1, k2⟩, V1, V3, t1, d1, s3, k3, k4⟩ := h_form h h0 e he x
    have go : ∀ V V2, hS (e + 3) 349 [vi x] (.inl (some (vl told))) V V2 → hS (e + 4) 348 [vi v] (.inl (some (vl told))) V V2 := fun V V2 hs Z a b W hh => by
      obtain ⟨Z1, r, m⟩ := hs Z a b W hh
      exact ⟨Z1, by rw [zDr_348]; exact hx a Z Z1 told r, m⟩
    exact ⟨told, fun _ => ⟨V2, W2, go V V2 s1, go W W2 s2, y2, k1, k2⟩, fun _ => ⟨V1, V3, t1, d1, go V V3 s3, k3, k4⟩⟩
