/-! Questions that leave the shadow alone; calls that are refused; the last call of an act. -/
theorem hD.Y {V V2 W W2 : zS} {d y d' y' : Nat} {as as' : List zV} {o o' : zO} (h : hY V W) (sv : hS d y as o V V2) (sw : hS d' y' as' o' W W2) (v : hD V V2) (w : hD W W2) : hY V2 W2 :=
  h.go sv sw v.1 w.1 (v.G.tr (h.2.2.2.tr w.G.symm))
/-- a question in one house -/
def hA1 (b : Bool) (e y : Nat) (as : List zV) : Prop := ∀ V W, (∃ Z a b, hH a b Z V W) → qHC V → ∃ (o : zO) (V1 V2 : zS), zD e y (vr 3 :: as) V = some (o, V1) ∧ ((∃ v, o = .inl (some (gl b v)) ∧ zc V2 = zc V ∧ zw V2 = zw V) ∨ (aX o ∧ zc V2 = zc V + 1 ∧ zw V2 = zw V + 6)) ∧ hS e y as o V V2 ∧ hD V V2
theorem hA1_q {b : Bool} {e y y' : Nat} {as : List zV} {ps : Nat → Int} (c1 : zC1 y = true) (c2 : zC2 y' = true) (ha : hN as) (hps : ∀ x, ps x ≠ 0 → x = 0 ∨ x = 1 ∨ x = 2) (u : ∀ V, qHC V → qAsk (gl b) V (zD e y (vr 3 :: as) V) (zD e y' (vr 37 :: as)) ps) : hA1 b e y as := fun V W hx hV => by
  obtain ⟨Z, a, b', hh⟩ := hx
  obtain ⟨o, V1, V2, r, al, s, d⟩ := h_ask hh hV c1 c2 ha (gl_O b) (u V hV)
  refine ⟨o, V1, V2, r, ?_, s, d⟩
  rcases al with ⟨v, e1, e2⟩ | ⟨x, rfl, e1, e2⟩
  · exact Or.inl ⟨v, e1, e2⟩
  · exact Or.inr ⟨⟨x, rfl, hps x e1⟩, e2⟩
/-- a question in both houses -/
theorem h_asks {V W : zS} (h : hY V W) {b : Bool} {e y : Nat} {as : List zV} (u : hU1 b e y as) (q : hA1 b e y as) : ∃ o o' V2 W2, ((∃ v, o = .inl (some (gl b v)) ∧ o' = o) ∨ (aX o ∧ aX o')) ∧ (hS e y as o V V2 ∧ hS e y as o' W W2) ∧ hY V2 W2 ∧ (hD V V2 ∧ hD W W2) ∧ (zc V2 ≤ zc V + 1 ∧ zw V2 ≤ zw V + 6) ∧ zc W2 ≤ zc W + 1 ∧ zw W2 ≤ zw W + 6 := by
  obtain ⟨oV, V1, V2, r1, al1, s1, d1⟩ := q V W h.1 h.2.1
  obtain ⟨oW, W1, W2, r2, al2, s2, d2⟩ := q W V (hX.symm h.1) h.2.2.1
  obtain ⟨o, o', V3, W3, al, -, -, -, -, -, V4, W4, e1, e2⟩ := h_both h u
  rw [r1] at e1
  rw [r2] at e2
  cases e1
  cases e2
  refine ⟨oV, oW, V2, W2, al, ⟨s1, s2⟩, hD.Y h s1 s2 d1 d2, ⟨d1, d2⟩, ?_, ?_⟩
  · rcases al1 with ⟨v, -, a1, a2⟩ | ⟨-, a1, a2⟩ <;> omega
  · rcases al2 with ⟨v, -, a1, a2⟩ | ⟨-, a1, a2⟩ <;> omega
theorem a_121 (e : Nat) (he : 300 ≤ e) (a b : Int) : hA1 false e 121 [vi a, vi b] := hA1_q (y' := 228) rfl rfl trivial ps_3 fun V hV => by
  obtain ⟨⟨⟨⟨hK, hP, hL, hn⟩, ⟨hT, hC, hR, hk⟩, hPo, hY⟩, hBB⟩, hYC, hFc⟩ := id hV
  exact q_size e V _ _ (by omega) hK hP hL hT hC hR
theorem a_125 (e : Nat) (he : 300 ≤ e) (a b : Int) : hA1 true e 125 [vi a, vi b] := hA1_q (y' := 232) rfl rfl trivial ps_3 fun V hV => by
  obtain ⟨⟨⟨⟨hK, hP, hL, hn⟩, ⟨hT, hC, hR, hk⟩, hPo, hY⟩, hBB⟩, hYC, hFc⟩ := id hV
  exact q_ways e V _ _ (by omega) hK hP hL hT hC hR
theorem a_126 (e : Nat) (he : 300 ≤ e) (a b : Int) : hA1 true e 126 [vi a, vi b] := hA1_q (y' := 233) rfl rfl trivial ps_3 fun V hV => by
  obtain ⟨⟨⟨⟨hK, hP, hL, hn⟩, ⟨hT, hC, hR, hk⟩, hPo, hY⟩, hBB⟩, hYC, hFc⟩ := id hV
  exact q_readings e V _ _ (by omega) hK hP hL hT hC hR
theorem a_128 (e : Nat) (he : 300 ≤ e) (w : Int) : hA1 false e 128 [vi w] := hA1_q (y' := 249) rfl rfl trivial ps_A fun V hV => by
  obtain ⟨⟨⟨⟨hK, hP, hL, hn⟩, ⟨hT, hC, hR, hk⟩, hPo, hY⟩, hBB⟩, hYC, hFc⟩ := id hV
  exact q_formulaCells e V _ (by omega) hK hP hL hT hC
theorem a_129 (e : Nat) (he : 300 ≤ e) (w i : Int) : hA1 false e 129 [vi w, vi i] := hA1_q (y' := 250) rfl rfl trivial ps_B fun V hV => by
  obtain ⟨⟨⟨⟨hK, hP, hL, hn⟩, ⟨hT, hC, hR, hk⟩, hPo, hY⟩, hBB⟩, hYC, hFc⟩ := id hV
  exact q_formulaCell e V _ _ (by omega) hK hP hL hT hC
theorem a_130 (e : Nat) (he : 300 ≤ e) (w : Int) : hA1 false e 130 [vi w] := hA1_q (y' := 251) rfl rfl trivial ps_A fun V hV => by
  obtain ⟨⟨⟨⟨hK, hP, hL, hn⟩, ⟨hT, hC, hR, hk⟩, hPo, hY⟩, hBB⟩, hYC, hFc⟩ := id hV
  exact q_isReadBack e V _ (by omega) hK hP hL hT hC
theorem u_128 (e : Nat) (he : 300 ≤ e) (w : Int) : hU1 false e 128 [vi w] := ⟨249, qpsA, rfl, rfl, trivial, ps_A, fun V hV => by
  obtain ⟨⟨⟨⟨hK, hP, hL, hn⟩, ⟨hT, hC, hR, hk⟩, hPo, hY⟩, hBB⟩, hYC, hFc⟩ := id hV
  exact qUs_n (w := qid) (qUn_a hC (q_formulaCells e V _ (by omega) hK hP hL hT hC) (fun m2 f => q5_ff hV f) fun m2 f => q5_fx hV f)⟩
theorem u_127 (e : Nat) (he : 300 ≤ e) : hU1 false e 127 [] := ⟨237, fun _ => 0, rfl, rfl, trivial, ps_0, fun V hV => by
  obtain ⟨⟨⟨⟨hK, hP, hL, hn⟩, ⟨hT, hC, hR, hk⟩, hPo, hY⟩, hBB⟩, hYC, hFc⟩ := id hV
  exact qUs_0 (qUn_a0 hC (q_formulaFault e V (by omega) hK hP hT hC) fun m2 f => q5_ff hV f)⟩
/-- a formula's fault is asked: nothing changes -/
theorem f_127 {V : zS} (hV : qHC V) (e : Nat) (he : 300 ≤ e) : ∃ v, zD e 127 [vr 3] V = some (.inl (some (vi v)), V) ∧ hS e 127 [] (.inl (some (vi v))) V V := by
  obtain ⟨⟨⟨⟨hK, hP, hL, hn⟩, ⟨hT, hC, hR, hk⟩, hPo, hY⟩, hBB⟩, hYC, hFc⟩ := id hV
  obtain ⟨v, m1, m2, r, -⟩ := q_formulaFault e V (by omega) hK hP hT hC
  obtain ⟨⟨v', -, e2⟩ | ⟨x, e1, -⟩, s⟩ := h_pure (as := []) (by rfl) (by rfl) trivial (o := .inl (some (vi v))) trivial r
  · rw [e2] at r s
    exact ⟨v, r, s⟩
  · cases e1
theorem f_127s {V W : zS} (h : hY V W) (e : Nat) (he : 300 ≤ e) : ∃ v, hS e 127 [] (.inl (some (vi v))) V V ∧ hS e 127 [] (.inl (some (vi v))) W W := by
  obtain ⟨v, r1, s1⟩ := f_127 h.2.1 e he
  obtain ⟨v', r2, s2⟩ := f_127 h.2.2.1 e he
  obtain ⟨o, o', V3, W3, al, -, -, -, -, -, V4, W4, e1, e2⟩ := h_both h (u_127 e he)
  rw [r1] at e1
  rw [r2] at e2
  cases e1
  cases e2
  rcases al with ⟨w, a1, a2⟩ | ⟨⟨x, a1, -⟩, -⟩
  · cases a2
    exact ⟨_, s1, s2⟩
  · cases a1
theorem aX_r {o : zO} (h : aX o) : res o = -9999999 := by
  obtain ⟨x, rfl, -⟩ := h
  rfl
/-- what the law's word for a throw leaves -/
def hRef (e y : Nat) (as : List zV) (V : zS) (o : zO) : Prop := ∃ V2, hS e y as o V V2 ∧ hD V V2 ∧ zc V2 ≤ zc V + 500 ∧ zw V2 ≤ zw V + 2000
theorem r_q {V W : zS} (hx : ∃ Z a b, hH a b Z V W) (hV : qHC V) {b : Bool} {e y : Nat} {as : List zV} (q : hA1 b e y as) {o : zO} {V1 : zS} (r : zD e y (vr 3 :: as) V = some (o, V1)) : hRef e y as V o := by
  obtain ⟨oV, V1, V2, r1, al1, s1, d1⟩ := q V W hx hV
  rw [r1] at r
  cases r
  refine ⟨V2, s1, d1, ?_⟩
  rcases al1 with ⟨v, -, a1, a2⟩ | ⟨-, a1, a2⟩ <;> omega
theorem r_v {V : zS} (hV : qHC V) {e y : Nat} {as : List zV} (hy : zC1 y = true) (ha : hN as) (v : vOk (fun T => T = zbump V) (zD e y (vr 3 :: as) V)) {o : zO} {V1 : zS} (r : zD e y (vr 3 :: as) V = some (o, V1)) : res o ≠ -9999999 ∨ hRef e y as V o := by
  rcases v o V1 r with ⟨v, rfl, hv⟩ | ⟨x, rfl, rfl⟩
  · left
    show v ≠ -9999999
    omega
  · exact Or.inr ⟨zbump V, h_cls (o := .inr _) hy ha trivial r, hD.b hV, by show zc V + 1 ≤ _; omega, by show zw V + 6 ≤ _; omega⟩
theorem r_div {V W : zS} (hx : ∃ Z a b, hH a b Z V W) (hV : qHC V) {e : Nat} (he : 300 ≤ e) {o : zO} {V1 : zS} (r : zD e 120 [vr 3] V = some (o, V1)) : res o ≠ -9999999 ∨ hRef e 120 [] V o := by
  obtain ⟨Z, a, b', hh⟩ := hx
  obtain ⟨⟨⟨⟨hK, hP, hL, hn⟩, ⟨hT, hC, hR, hk⟩, hPo, hY⟩, hBB⟩, hYC, hFc⟩ := id hV
  rcases v_divisH e V (by omega) hK hP hT hC hR (qYb_h hY) hn o V1 r with ⟨v, rfl, hv⟩ | ⟨x, rfl, -⟩
  · left
    show v ≠ -9999999
    omega
  · right
    rcases q_divisH e V (by omega) hK hP hT hC hR (qYb_h hY) hn with ⟨v, S1, r1, -⟩ | ⟨x', v, S1, S2, r1, -, f, -, -, T, m2, rfl, hTg, q⟩
    · rw [r1] at r
      cases r
    · rw [r1] at r
      cases r
      obtain ⟨a1, a2, a3, a4, a5, a6, a7, a8, a9⟩ := h_seen (o := .inr _) (as := []) hh hV (by rfl) trivial trivial r1
      obtain ⟨c1, c2, c3⟩ := h_ghost (as := []) a1 a3 a4 (by rw [a5]; exact hh.k.2) (by rfl) trivial f
      obtain ⟨M, hM⟩ : ∃ M : Int → Int → Int, M = fun x => if 37 ≤ x ∧ x ≤ 102 then zm T x else m2 x := ⟨_, rfl⟩
      have Mg : ∀ x, 37 ≤ x ∧ x ≤ 102 → M x = zm T x := fun x hx => by rw [hM]; exact if_pos hx
      have Mn : ∀ x, ¬ (37 ≤ x ∧ x ≤ 102) → M x = m2 x := fun x hx => by rw [hM]; exact if_neg hx
      have qM : qFq T M := fun x j hj => by
        by_cases c : 37 ≤ x ∧ x ≤ 102
        · rw [Mg x c]
        · rw [Mn x c]
          exact q x j hj
      have tn : zn V ≤ zn T ∧ zc T ≤ zc V + 3 ∧ zw T ≤ zw V + 18 ∧ ∀ x : Int, x < zn V → zm T x = zm V x := by
        rcases hTg with rfl | ⟨g1, g2, g3, g4, g5⟩
        · exact ⟨Nat.le_refl _, by omega, by omega, fun _ _ => rfl⟩
        · exact ⟨by omega, by omega, by omega, fun x hx => funext fun j => g5 x j hx id⟩
      have hm1 : zmono V1 (zbump (qW T M)) := c1
      have fr : ∀ x : Int, x < zn V1 → ¬ (37 ≤ x ∧ x ≤ 102) → m2 x = zm V1 x := fun x hx hg => c2 x hx (by omega)
      have l9 := a9.1
      refine ⟨zbump (qW T M), h_cls2 (o := .inr _) (as := []) (by rfl) trivial trivial r1 hm1 (fun x hx hg => ?_), ⟨(q5_divx hV ⟨T, M, rfl, hTg, qM⟩).1.1, tn.1, fun x hx => ?_, fun x j hx hj => ?_⟩, by show zc T + 1 ≤ _; omega, by show zw T + 6 ≤ _; omega⟩
      · show M x = zm V1 x
        rw [Mn x hg]
        exact fr x hx hg
      · show M x = zm V x
        by_cases c : 37 ≤ x ∧ x ≤ 102
        · rw [Mg x c]
          exact tn.2.2.2 x (by omega)
        · have hx' : gs x := hx.resolve_right fun e => c (by omega)
          rw [Mn x c, fr x (by rcases hx' with q | q | q <;> omega) c]
          exact a6 x hx'
      · show M x j = zm V x j
        by_cases c : 37 ≤ x ∧ x ≤ 102
        · rw [Mg x c, tn.2.2.2 x hx]
        · rw [Mn x c, fr x (by omega) c]
          exact a7 x j hx hj
/-- what an act may cost -/
def hCt (V V2 : zS) : Prop := zc V2 ≤ zc V + 500 ∧ (zw V2 : Int) ≤ zw V + 2000 + 15000 * ((zm V2 37 16 + zm V2 37 65) - (zm V 37 16 + zm V 37 65))
def aGl (b : Bool) (o : zO) : Prop := (∃ v, o = .inl (some (gl b v))) ∨ aX o
theorem aO_f {y : Nat} (h : ¬ (y = 125 ∨ y = 126)) (o : zO) (g : aGl false o) : aOut y o := by
  unfold aOut
  rw [if_neg h]
  exact g
theorem aO_t {y : Nat} (h : y = 125 ∨ y = 126) (o : zO) (g : aGl true o) : aOut y o := by
  unfold aOut
  rw [if_pos h]
  exact g
theorem h_fin1 {V W : zS} (h : hY V W) {b : Bool} {e y : Nat} {as : List zV} (hb : ∀ o, aGl b o → aOut y o) (u : hU1 b e y as) (hr : ∀ o V1, zD e y (vr 3 :: as) V = some (o, V1) → res o ≠ -9999999 ∨ hRef e y as V o) :
    ∃ o, aOut y o ∧ (res o ≠ -9999999 → ∃ V2 W2, hS e y as o V V2 ∧ hS e y as o W W2 ∧ hY V2 W2 ∧ hCt V V2 ∧ hCt W W2) ∧ (res o = -9999999 → hRef e y as V o) := by
  obtain ⟨o, o', V2, W2, al, ⟨s1, s2⟩, y2, ⟨g1, g2⟩, -, -, V1, W1, e1, e2⟩ := h_both h u
  refine ⟨o, hb o ?_, fun hn => ?_, fun hn => (hr o V1 e1).resolve_left fun q => q hn⟩
  · rcases al with ⟨v, e, -⟩ | ⟨e, -⟩
    · exact Or.inl ⟨v, e⟩
    · exact Or.inr e
  · rcases al with ⟨v, e, e'⟩ | ⟨e, -⟩
    · rw [e'] at s2
      exact ⟨V2, W2, s1, s2, y2, ⟨g1.1.2.1, g1.1.2.2⟩, g2.1.2.1, g2.1.2.2⟩
    · exact absurd (aX_r e) hn
theorem h_fin {V W : zS} (h : hY V W) {e y : Nat} {as : List zV} (he : 300 ≤ e) (hf : aFin y as) :
    ∃ o, aOut y o ∧ (res o ≠ -9999999 → ∃ V2 W2, hS e y as o V V2 ∧ hS e y as o W W2 ∧ hY V2 W2 ∧ hCt V V2 ∧ hCt W W2) ∧ (res o = -9999999 → hRef e y as V o) := by
  have hV := h.2.1
  obtain ⟨⟨⟨⟨hK, hP, hL, hn⟩, ⟨hT, hC, hR, hk⟩, hPo, hY⟩, hBB⟩, hYC, hFc⟩ := id hV
  rcases hf with ⟨a, b, (rfl | rfl | rfl | rfl | rfl | rfl), rfl⟩ | ⟨a, b, c, (rfl | rfl | rfl), rfl⟩ | ⟨a, (rfl | rfl), rfl⟩ | ⟨rfl, rfl⟩ | ⟨a, b, c, f, s, rfl, rfl⟩
  · exact h_fin1 h (aO_f (by decide)) (u_121 e he a b) fun o V1 r => Or.inr (r_q h.1 hV (a_121 e he a b) r)
  · exact h_fin1 h (aO_t (by decide)) (u_125 e he a b) fun o V1 r => Or.inr (r_q h.1 hV (a_125 e he a b) r)
  · exact h_fin1 h (aO_t (by decide)) (u_126 e he a b) fun o V1 r => Or.inr (r_q h.1 hV (a_126 e he a b) r)
  · exact h_fin1 h (aO_f (by decide)) (u_137 e he a b) fun o V1 r => r_v (as := [vi a, vi b]) hV (by rfl) trivial (v_emboss5 e V a b (by omega) hV) r
  · exact h_fin1 h (aO_f (by decide)) (u_144 e he a b) fun o V1 r => r_v (as := [vi a, vi b]) hV (by rfl) trivial (v_wish5 e V a b (by omega) hV) r
  · exact h_fin1 h (aO_f (by decide)) (u_148 e he a b) fun o V1 r => r_v (as := [vi a, vi b]) hV (by rfl) trivial (v_giveBack5 e V a b (by omega) hV) r
  · exact h_fin1 h (aO_f (by decide)) (u_136 e he a b c) fun o V1 r => r_v (as := [vi a, vi b, vi c]) hV (by rfl) trivial (v_renew e V a b c (by omega) hK hP hPo.1) r
  · exact h_fin1 h (aO_f (by decide)) (u_142 e he a b c) fun o V1 r => r_v (as := [vi a, vi b, vi c]) hV (by rfl) trivial (v_teach5 e V a b c (by omega) hV) r
  · exact h_fin1 h (aO_f (by decide)) (u_145 e he a b c) fun o V1 r => r_v (as := [vi a, vi b, vi c]) hV (by rfl) trivial (v_secret e V a b c (by omega) hK hP hY) r
  · exact h_fin1 h (aO_f (by decide)) (u_132 e he a) fun o V1 r => r_v (as := [vi a]) hV (by rfl) trivial (v_add e V a (by omega) hV) r
  · exact h_fin1 h (aO_f (by decide)) (u_146 e he a) fun o V1 r => r_v (as := [vi a]) hV (by rfl) trivial (v_pass5 e V a (by omega) hV) r
  · exact h_fin1 h (aO_f (by decide)) (u_120 e he) fun o V1 r => r_div h.1 hV he r
  · exact h_fin1 h (aO_f (by decide)) (u_119 e he a b c f s) fun o V1 r => r_v (as := [vi a, vi b, vi c, vi f, vi s]) hV (by rfl) trivial (v_contrH e V a b c f s (by omega) hK hP hT hC (qYb_h hY) hn) r
