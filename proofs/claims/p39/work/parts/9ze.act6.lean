/-! Acts keep what the law's questions stand on. -/
def hU6 (b : Bool) (e y : Nat) (as : List zV) : Prop := ∃ (y' : Nat) (ps : Nat → Int), zC1 y = true ∧ zC2 y' = true ∧ hN as ∧ (∀ x, ps x ≠ 0 → x = 0 ∨ x = 1 ∨ x = 2) ∧ ∀ V, qHC V → qUs (gl b) (qG6 V) (zD e y (vr 3 :: as) V) (zD e y' (vr 37 :: as)) ps
theorem w6_121 (e : Nat) (he : 300 ≤ e) (a b : Int) : hU6 false e 121 [vi a, vi b] := ⟨228, qps3, rfl, rfl, trivial, ps_3, fun V hV => by
  obtain ⟨⟨⟨⟨hK, hP, hL, hn⟩, ⟨hT, hC, hR, hk⟩, hPo, hY⟩, hBB⟩, hYC, hFc⟩ := id hV
  exact qUs_n (w := qid) (qUn_a hC (q_size e V _ _ (by omega) hK hP hL hT hC hR) (fun m2 f => q6_ff hV f) fun m2 f => q6_fx hV f)⟩
theorem w6_125 (e : Nat) (he : 300 ≤ e) (a b : Int) : hU6 true e 125 [vi a, vi b] := ⟨232, qps3, rfl, rfl, trivial, ps_3, fun V hV => by
  obtain ⟨⟨⟨⟨hK, hP, hL, hn⟩, ⟨hT, hC, hR, hk⟩, hPo, hY⟩, hBB⟩, hYC, hFc⟩ := id hV
  exact qUs_n (w := qid) (qUn_a hC (q_ways e V _ _ (by omega) hK hP hL hT hC hR) (fun m2 f => q6_ff hV f) fun m2 f => q6_fx hV f)⟩
theorem w6_126 (e : Nat) (he : 300 ≤ e) (a b : Int) : hU6 true e 126 [vi a, vi b] := ⟨233, qps3, rfl, rfl, trivial, ps_3, fun V hV => by
  obtain ⟨⟨⟨⟨hK, hP, hL, hn⟩, ⟨hT, hC, hR, hk⟩, hPo, hY⟩, hBB⟩, hYC, hFc⟩ := id hV
  exact qUs_n (w := qid) (qUn_a hC (q_readings e V _ _ (by omega) hK hP hL hT hC hR) (fun m2 f => q6_ff hV f) fun m2 f => q6_fx hV f)⟩
theorem w6_119 (e : Nat) (he : 300 ≤ e) (a b c f s : Int) : hU6 false e 119 [vi a, vi b, vi c, vi f, vi s] := ⟨211, qps3, rfl, rfl, trivial, ps_3, fun V hV => by
  obtain ⟨⟨⟨⟨hK, hP, hL, hn⟩, ⟨hT, hC, hR, hk⟩, hPo, hY⟩, hBB⟩, hYC, hFc⟩ := id hV
  exact qUs_n (qUn_n (j_contrH e V _ _ _ _ _ (by omega) hK hP hT hC (qYb_h hY) hn) (fun S2 q => qGw_k q.1.2.2.2 hn fun j => by omega) (fun S2 q => by obtain ⟨m2, rfl, f⟩ := q; exact ⟨qFq_1 hC f, fun _ _ => rfl⟩) (fun S2 q => ⟨q5_contr hV q.1.1 q.1.2.1 q.1.2.2.1 q.1.2.2.2, q.2⟩) (fun S2 q => by obtain ⟨m2, rfl, f⟩ := q; exact q6_fx hV f))⟩
theorem w6_120 (e : Nat) (he : 300 ≤ e) : hU6 false e 120 [] := ⟨213, qpsA, rfl, rfl, trivial, ps_A, fun V hV => by
  obtain ⟨⟨⟨⟨hK, hP, hL, hn⟩, ⟨hT, hC, hR, hk⟩, hPo, hY⟩, hBB⟩, hYC, hFc⟩ := id hV
  exact qUs_n (qUn_n (q_divisH e V (by omega) hK hP hT hC hR (qYb_h hY) hn) (fun S2 q => qGw_k q.2.2 hn fun j => by omega) (fun S2 q => q_divx hn hC q) (fun S2 q => ⟨q5_divis hV q.1 q.2.1.1 q.2.1.2.2.1 q.2.2, hI_w hn q.2.2 (fun j hj => by omega) (fun z j hz => by omega)⟩) (fun S2 q => ⟨q5_divx hV q, hI_dx hn hC q⟩))⟩
theorem w6_132 (e : Nat) (he : 300 ≤ e) (a : Int) : hU6 false e 132 [vi a] := ⟨255, qps3, rfl, rfl, trivial, ps_3, fun V hV => qUs_n (j_add e V _ (by omega) hV)⟩
theorem w6_137 (e : Nat) (he : 300 ≤ e) (a b : Int) : hU6 false e 137 [vi a, vi b] := ⟨276, qpsE, rfl, rfl, trivial, ps_E, fun V hV => qUs_n (j_emboss5 e V _ _ (by omega) hV)⟩
theorem w6_142 (e : Nat) (he : 300 ≤ e) (a b c : Int) : hU6 false e 142 [vi a, vi b, vi c] := ⟨291, qpsF, rfl, rfl, trivial, ps_F, fun V hV => qUs_n (j_teach5 e V _ _ _ (by omega) hV)⟩
theorem w6_144 (e : Nat) (he : 300 ≤ e) (a b : Int) : hU6 false e 144 [vi a, vi b] := ⟨296, qpsE, rfl, rfl, trivial, ps_E, fun V hV => qUs_n (j_wish5 e V _ _ (by omega) hV)⟩
theorem w6_146 (e : Nat) (he : 300 ≤ e) (a : Int) : hU6 false e 146 [vi a] := ⟨300, qpsA, rfl, rfl, trivial, ps_A, fun V hV => qUs_n (j_pass5 e V _ (by omega) hV)⟩
theorem w6_148 (e : Nat) (he : 300 ≤ e) (a b : Int) : hU6 false e 148 [vi a, vi b] := ⟨303, qpsE, rfl, rfl, trivial, ps_E, fun V hV => qUs_n (j_giveBack5 e V _ _ (by omega) hV)⟩
theorem w6_136 (e : Nat) (he : 300 ≤ e) (a b c : Int) : hU6 false e 136 [vi a, vi b, vi c] := ⟨275, qpsD, rfl, rfl, trivial, ps_D, fun V hV => by
  obtain ⟨⟨⟨⟨hK, hP, hL, hn⟩, ⟨hT, hC, hR, hk⟩, hPo, hY⟩, hBB⟩, hYC, hFc⟩ := id hV
  exact qUs_n (q_renew e V _ _ _ (qG6 V) (by omega) hK hP hPo.1 (q6_0 hV) (fun o c0 c3 p0 p6 t1 t2 => ⟨q5_renew hV _ _ _ o c0 c3 p0 p6 t1 t2, hI_e (fun j hj => by rw [qmW, qu_o _ _ _ _ _ (by decide), qu_i _ _ _ _ _ (by omega), qu_o _ _ _ _ _ (by decide), qu_o _ _ _ _ _ (by omega)]) fun z hz => by rw [qmW, qu_o _ _ _ _ _ (by omega), qu_o _ _ _ _ _ (by omega), qu_o _ _ _ _ _ (by omega), qu_o _ _ _ _ _ (by omega)]⟩))⟩
theorem w6_145 (e : Nat) (he : 300 ≤ e) (a b c : Int) : hU6 false e 145 [vi a, vi b, vi c] := ⟨297, qpsD, rfl, rfl, trivial, ps_D, fun V hV => by
  obtain ⟨⟨⟨⟨hK, hP, hL, hn⟩, ⟨hT, hC, hR, hk⟩, hPo, hY⟩, hBB⟩, hYC, hFc⟩ := id hV
  exact qUs_n (q_secret e V _ _ _ (qG6 V) (by omega) hK hP hY (q6_0 hV) (fun o b0 b1 t0 t1 w0 w1 => ⟨q5_secret hV _ _ _ o b0 b1 t0 t1 w0 w1, by
    have x103 := (hY.2.1 _ b0 b1).1.2.2.2.1
    exact hI_e (fun j hj => by rw [qmW, qu_o _ _ _ _ _ (by decide), qu_o _ _ _ _ _ (by decide), qu_i _ _ _ _ _ (by omega), qu_o _ _ _ _ _ (by decide), qu_o _ _ _ _ _ (by omega), qu_o _ _ _ _ _ (by omega)]) fun z hz => by rw [qmW, qu_o _ _ _ _ _ (by omega), qu_o _ _ _ _ _ (by omega), qu_o _ _ _ _ _ (by omega), qu_o _ _ _ _ _ (by omega), qu_o _ _ _ _ _ (by omega), qu_o _ _ _ _ _ (by omega)]⟩))⟩
theorem qG6_c {V : zS} (S T : zS) (h : qG6 V S) (h1 : zc T ≤ zc S) (h2 : zw T ≤ zw S) : qG6 V (zrst S T) := ⟨qG5_c S T h.1 h1 h2, h.2⟩
def hB6 (b : Bool) (e y : Nat) (as : List zV) (V W : zS) (o o' : zO) (V2 W2 : zS) : Prop := ((∃ v, o = .inl (some (gl b v)) ∧ o' = o) ∨ (aX o ∧ aX o')) ∧ (hS e y as o V V2 ∧ hS e y as o' W W2) ∧ hY V2 W2 ∧ (qG6 V V2 ∧ qG6 W W2) ∧ (∀ x j : Int, x < zn V → j < 0 → zm V2 x j = zm V x j) ∧ (zinl zAFl y = true → (zc V2 ≤ zc V + 1 ∧ zw V2 ≤ zw V + 6) ∧ zc W2 ≤ zc W + 1 ∧ zw W2 ≤ zw W + 6) ∧
  ∃ V1 W1, zD e y (vr 3 :: as) V = some (o, V1) ∧ zD e y (vr 3 :: as) W = some (o', W1)
theorem h_both6 {V W : zS} (h : hY V W) {b : Bool} {e y : Nat} {as : List zV} (u : hU6 b e y as) : ∃ o o' V2 W2, hB6 b e y as V W o o' V2 W2 := by
  obtain ⟨⟨Z, a, b', hh⟩, hV, hW, hg⟩ := id h
  obtain ⟨y', ps, c1, c2, ha, hps, u⟩ := u
  obtain ⟨o, o', V1, W1, V2, W2, ⟨y1, y2⟩, al, ⟨s1, s2⟩, ⟨q1, q2⟩, g2, ⟨z1, z2, z3, z4⟩, ng, -⟩ := h_un hh hV hW hg (fun S q => q.1.1.1) (fun S q => q.1.1.1) qG6_c qG6_c c1 c2 ha (gl_O b) (u V hV) (u W hW)
  refine ⟨o, o', V2, W2, ?_, ⟨s1, s2⟩, h.go s1 s2 q1.1.1.1 q2.1.1.1 g2, ⟨q1, q2⟩, ng, fun hz => ?_, V1, W1, y1, y2⟩
  · rcases al with ⟨v, e1, e2⟩ | ⟨x, x', rfl, rfl, e1, e2⟩
    · exact Or.inl ⟨v, e1, e2⟩
    · exact Or.inr ⟨⟨x, rfl, hps x e1⟩, x', rfl, hps x' e2⟩
  · have p1 := zaf_cw hz y1
    have p2 := zaf_cw hz y2
    omega
theorem hI_G {V W : zS} (g : hG V W) (h : hI (zm V)) : hI (zm W) :=
  hI_e (fun j _ => by rw [g 37 (Or.inr (Or.inr (by decide)))]) (fun z hz => (g z (Or.inr (Or.inr (by omega)))).symm) h
theorem hT_I {V V1 : zS} (t : hT V V1) (h : hI (zm V)) : hI (zm V1) :=
  hI_e (fun j hj => t.1 37 j (by decide) (by decide) (by decide) fun q => by omega) (fun z hz => funext fun j => t.1 z j (by omega) (by omega) (by omega) fun q => by omega) h
/-- what an act may cost, and what it keeps -/
def hC6 (V V2 : zS) : Prop := hCt V V2 ∧ (hI (zm V) → hI (zm V2)) ∧ zm V 37 16 ≤ zm V2 37 16
theorem hC6_put {V V1 V2 : zS} (t : hT V V1) (c1 : zc V1 = zc V) (c2 : zw V1 = zw V) (h : hC6 V1 V2) : hC6 V V2 :=
  ⟨hCt_put (hT_37 t 16 (by decide)) (hT_37 t 65 (by decide)) c1 c2 h.1, fun q => h.2.1 (hT_I t q), by rw [← hT_37 t 16 (by decide)]; exact h.2.2⟩
theorem h_fin61 {V W : zS} (h : hY V W) {b : Bool} {e y : Nat} {as : List zV} (hb : ∀ o, aGl b o → aOut y o) (u : hU6 b e y as) (hr : ∀ o V1, zD e y (vr 3 :: as) V = some (o, V1) → res o ≠ -9999999 ∨ hRef e y as V o) :
    ∃ o, aOut y o ∧ (res o ≠ -9999999 → ∃ V2 W2, hS e y as o V V2 ∧ hS e y as o W W2 ∧ hY V2 W2 ∧ hC6 V V2 ∧ hCt W W2) ∧ (res o = -9999999 → hRef e y as V o) := by
  obtain ⟨o, o', V2, W2, al, ⟨s1, s2⟩, y2, ⟨g1, g2⟩, -, -, V1, W1, e1, e2⟩ := h_both6 h u
  refine ⟨o, hb o ?_, fun hn => ?_, fun hn => (hr o V1 e1).resolve_left fun q => q hn⟩
  · rcases al with ⟨v, e, -⟩ | ⟨e, -⟩
    · exact Or.inl ⟨v, e⟩
    · exact Or.inr e
  · rcases al with ⟨v, e, e'⟩ | ⟨e, -⟩
    · rw [e'] at s2
      exact ⟨V2, W2, s1, s2, y2, ⟨⟨g1.1.1.2.1, g1.1.1.2.2⟩, g1.2, g1.1.2.2⟩, g2.1.1.2.1, g2.1.1.2.2⟩
    · exact absurd (aX_r e) hn
theorem h_fin6 {V W : zS} (h : hY V W) {e y : Nat} {as : List zV} (he : 300 ≤ e) (hf : aFin y as) :
    ∃ o, aOut y o ∧ (res o ≠ -9999999 → ∃ V2 W2, hS e y as o V V2 ∧ hS e y as o W W2 ∧ hY V2 W2 ∧ hC6 V V2 ∧ hCt W W2) ∧ (res o = -9999999 → hRef e y as V o) := by
  have hV := h.2.1
  obtain ⟨⟨⟨⟨hK, hP, hL, hn⟩, ⟨hT, hC, hR, hk⟩, hPo, hY⟩, hBB⟩, hYC, hFc⟩ := id hV
  rcases hf with ⟨a, b, (rfl | rfl | rfl | rfl | rfl | rfl), rfl⟩ | ⟨a, b, c, (rfl | rfl | rfl), rfl⟩ | ⟨a, (rfl | rfl), rfl⟩ | ⟨rfl, rfl⟩ | ⟨a, b, c, f, s, rfl, rfl⟩
  · exact h_fin61 h (aO_f (by decide)) (w6_121 e he a b) fun o V1 r => Or.inr (r_q h.1 hV (a_121 e he a b) r)
  · exact h_fin61 h (aO_t (by decide)) (w6_125 e he a b) fun o V1 r => Or.inr (r_q h.1 hV (a_125 e he a b) r)
  · exact h_fin61 h (aO_t (by decide)) (w6_126 e he a b) fun o V1 r => Or.inr (r_q h.1 hV (a_126 e he a b) r)
  · exact h_fin61 h (aO_f (by decide)) (w6_137 e he a b) fun o V1 r => r_v (as := [vi a, vi b]) hV (by rfl) trivial (v_emboss5 e V a b (by omega) hV) r
  · exact h_fin61 h (aO_f (by decide)) (w6_144 e he a b) fun o V1 r => r_v (as := [vi a, vi b]) hV (by rfl) trivial (v_wish5 e V a b (by omega) hV) r
  · exact h_fin61 h (aO_f (by decide)) (w6_148 e he a b) fun o V1 r => r_v (as := [vi a, vi b]) hV (by rfl) trivial (v_giveBack5 e V a b (by omega) hV) r
  · exact h_fin61 h (aO_f (by decide)) (w6_136 e he a b c) fun o V1 r => r_v (as := [vi a, vi b, vi c]) hV (by rfl) trivial (v_renew e V a b c (by omega) hK hP hPo.1) r
  · exact h_fin61 h (aO_f (by decide)) (w6_142 e he a b c) fun o V1 r => r_v (as := [vi a, vi b, vi c]) hV (by rfl) trivial (v_teach5 e V a b c (by omega) hV) r
  · exact h_fin61 h (aO_f (by decide)) (w6_145 e he a b c) fun o V1 r => r_v (as := [vi a, vi b, vi c]) hV (by rfl) trivial (v_secret e V a b c (by omega) hK hP hY) r
  · exact h_fin61 h (aO_f (by decide)) (w6_132 e he a) fun o V1 r => r_v (as := [vi a]) hV (by rfl) trivial (v_add e V a (by omega) hV) r
  · exact h_fin61 h (aO_f (by decide)) (w6_146 e he a) fun o V1 r => r_v (as := [vi a]) hV (by rfl) trivial (v_pass5 e V a (by omega) hV) r
  · exact h_fin61 h (aO_f (by decide)) (w6_120 e he) fun o V1 r => r_div h.1 hV he r
  · exact h_fin61 h (aO_f (by decide)) (w6_119 e he a b c f s) fun o V1 r => r_v (as := [vi a, vi b, vi c, vi f, vi s]) hV (by rfl) trivial (v_contrH e V a b c f s (by omega) hK hP hT hC (qYb_h hY) hn) r
theorem h_form6 {V W : zS} (h : hY V W) (h0 : zm V 37 2 = 0) (e : Nat) (he : 300 ≤ e) (x : Int) :
    ∃ told, (∃ V2 W2, hS (e + 3) 349 [vi x] (.inl (some (vl told))) V V2 ∧ hS (e + 3) 349 [vi x] (.inl (some (vl told))) W W2 ∧ hY V2 W2 ∧ hC6 V V2 ∧ hCt W W2) ∧ hRf2 (e + 3) 349 [vi x] (.inl (some (vl told))) V := by
  obtain ⟨l, l1, l2, l3⟩ := l_form e x
  obtain ⟨V1, W1, p1, p2, y1, k1, t1, c1, c2, c3, c4⟩ := h_puts (e + 1) (by omega) l V W 0 h l2 h0 (by omega)
  obtain ⟨f, f1, f2⟩ := f_127s y1 (e + 2) (by omega)
  obtain ⟨o1, o1', V2, W2, al1, ⟨s1, s1'⟩, y2, ⟨d1, d1'⟩, ⟨b1, b2⟩, b3, b4⟩ := h_asks y1 (u_128 (e + 1) (by omega) 0) (a_128 (e + 1) (by omega) 0)
  obtain ⟨o2, o2', V3, W3, al2, ⟨s2, s2'⟩, y3, ⟨d2, d2'⟩, ⟨b5, b6⟩, b7, b8⟩ := h_asks y2 (u_128 (e + 1) (by omega) 1) (a_128 (e + 1) (by omega) 1)
  have i1 : aInt o1 ∧ aInt o1' ∧ res o1' = res o1 := by
    rcases al1 with ⟨v, rfl, rfl⟩ | ⟨q, q'⟩
    · exact ⟨Or.inl ⟨v, rfl⟩, Or.inl ⟨v, rfl⟩, rfl⟩
    · exact ⟨Or.inr q, Or.inr q', by rw [aX_r q, aX_r q']⟩
  have i2 : aInt o2 ∧ aInt o2' ∧ res o2' = res o2 := by
    rcases al2 with ⟨v, rfl, rfl⟩ | ⟨q, q'⟩
    · exact ⟨Or.inl ⟨v, rfl⟩, Or.inl ⟨v, rfl⟩, rfl⟩
    · exact ⟨Or.inr q, Or.inr q', by rw [aX_r q, aX_r q']⟩
  have hs := l3 V V1 V2 V3 f o1 o2 y1.2.1 y2.2.1 i1.1 i2.1 p1 f1 s1 s2
  have hs' := l3 W W1 W2 W3 f o1' o2' y1.2.2.1 y2.2.2.1 i1.2.1 i2.2.1 p2 f2 s1' s2'
  rw [show ftl f o1' o2' = ftl f o1 o2 by unfold ftl; rw [i1.2.2, i2.2.2]] at hs'
  have d := d1.tr d2
  have e37 : zm V3 37 = zm V1 37 := d.2.2.1 37 (Or.inl (Or.inr (Or.inr (by decide))))
  have g16 : zm V3 37 16 = zm V 37 16 := by rw [e37]; exact hT_37 t1 16 (by decide)
  have g65 : zm V3 37 65 = zm V 37 65 := by rw [e37]; exact hT_37 t1 65 (by decide)
  have eW := hY_37 h
  have eW3 := hY_37 y3
  refine ⟨ftl f o1 o2, ⟨V3, W3, hs, hs', y3, ⟨⟨by omega, by rw [g16, g65]; omega⟩, fun q => hD_I d (hT_I t1 q), Int.le_of_eq g16.symm⟩, by omega, by rw [← eW, ← eW3, g16, g65]; omega⟩, V1, V3, t1, d, hs, by omega, by omega⟩
/-- an act in both houses -/
theorem h_act6 {V W : zS} (h : hY V W) (h0 : zm V 37 2 = 0) (e : Nat) (he : 300 ≤ e) (v : Int) :
    ∃ told, (told ≠ -9999999 → ∃ V2 W2, hS (e + 4) 348 [vi v] (.inl (some (vl told))) V V2 ∧ hS (e + 4) 348 [vi v] (.inl (some (vl told))) W W2 ∧ hY V2 W2 ∧ hC6 V V2 ∧ hCt W W2) ∧ (told = -9999999 → hRf2 (e + 4) 348 [vi v] (.inl (some (vl told))) V) := by
  have hV := h.2.1
  rcases g348_0 e v with ⟨l, l1, l2, l3⟩ | ⟨x, hx⟩
  · obtain ⟨V1, W1, p1, p2, y1, k1, t1, c1, c2, c3, c4⟩ := h_puts (e + 1) (by omega) l V W 0 h l2 h0 (by omega)
    have g16 := hT_37 t1 16 (by decide)
    have g65 := hT_37 t1 65 (by decide)
    have eW := hY_37 h
    have eW1 := hY_37 y1
    rcases l3 with ⟨y, as, hf, l3⟩ | ⟨r, l3⟩
    · obtain ⟨o, ho, q1, q2⟩ := h_fin6 y1 (e := e + 2) (by omega) hf
      have go : ∀ V V1 V2, qHC V → hPs (e + 1) l V V1 → hS (e + 2) y as o V1 V2 → hS (e + 4) 348 [vi v] (.inl (some (vl (res o)))) V V2 := fun V V1 V2 hV hp hs Z a b W hh => by
        obtain ⟨Z1, r, m⟩ := l3 V V1 V2 o hp ho hs Z a b W hh (hh.ka hV)
        exact ⟨Z1, by rw [zDr_348]; exact r, m⟩
      refine ⟨res o, fun hn => ?_, fun hn => ?_⟩
      · obtain ⟨V2, W2, s1, s2, y2, k1, k2⟩ := q1 hn
        exact ⟨V2, W2, go V V1 V2 hV p1 s1, go W W1 W2 h.2.2.1 p2 s2, y2, hC6_put t1 c1 c2 k1, hCt_put (by rw [← eW1, ← eW, g16]) (by rw [← eW1, ← eW, g65]) c3 c4 k2⟩
      · obtain ⟨V2, s1, d1, k1, k2⟩ := q2 hn
        exact ⟨V1, V2, t1, d1, go V V1 V2 hV p1 s1, by omega, by omega⟩
    · have go : ∀ V V1, qHC V → hPs (e + 1) l V V1 → hS (e + 4) 348 [vi v] (.inl (some (vl r))) V V1 := fun V V1 hV hp Z a b W hh => by
        obtain ⟨Z1, r, m⟩ := l3 V V1 hp Z a b W hh (hh.ka hV)
        exact ⟨Z1, by rw [zDr_348]; exact r, m⟩
      have ct : hC6 V V1 := ⟨⟨by omega, by rw [g16, g65]; omega⟩, hT_I t1, Int.le_of_eq g16.symm⟩
      have ct' : hCt W W1 := ⟨by omega, by rw [← eW1, ← eW, g16, g65]; omega⟩
      exact ⟨r, fun _ => ⟨V1, W1, go V V1 hV p1, go W W1 h.2.2.1 p2, y1, ct, ct'⟩, fun _ => ⟨V1, V1, t1, hD.rf y1.2.1, go V V1 hV p1, by omega, by omega⟩⟩
  · obtain ⟨told, ⟨V2, W2, s1, s2, y2, k1, k2⟩, V1, V3, t1, d1, s3, k3, k4⟩ := h_form6 h h0 e he x
    have go : ∀ V V2, hS (e + 3) 349 [vi x] (.inl (some (vl told))) V V2 → hS (e + 4) 348 [vi v] (.inl (some (vl told))) V V2 := fun V V2 hs Z a b W hh => by
      obtain ⟨Z1, r, m⟩ := hs Z a b W hh
      exact ⟨Z1, by rw [zDr_348]; exact hx a Z Z1 told r, m⟩
    exact ⟨told, fun _ => ⟨V2, W2, go V V2 s1, go W W2 s2, y2, k1, k2⟩, fun _ => ⟨V1, V3, t1, d1, go V V3 s3, k3, k4⟩⟩
