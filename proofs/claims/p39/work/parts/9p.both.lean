/-! Every call of a house: both houses answer alike. -/
def gl : Bool → Int → zV
  | true => vl
  | false => vi
theorem gl_O : ∀ (b : Bool) (v : Int), hO (.inl (some (gl b v)))
  | true, _ => trivial
  | false, _ => trivial
theorem ps_3 (x : Nat) (h : qps3 x ≠ 0) : x = 0 ∨ x = 1 ∨ x = 2 := by
  unfold qps3 at h
  by_cases a : x = 2
  · exact Or.inr (Or.inr a)
  · by_cases b : x = 0
    · exact Or.inl b
    · by_cases c : x = 1
      · exact Or.inr (Or.inl c)
      · rw [if_neg a, if_neg b, if_neg c] at h
        exact absurd rfl h
theorem ps_B (x : Nat) (h : qpsB x ≠ 0) : x = 0 ∨ x = 1 ∨ x = 2 := by
  unfold qpsB at h
  by_cases a : x = 0
  · exact Or.inl a
  · by_cases b : x = 2
    · exact Or.inr (Or.inr b)
    · by_cases c : x = 1
      · exact Or.inr (Or.inl c)
      · rw [if_neg a, if_neg b, if_neg c] at h
        exact absurd rfl h
theorem ps_A (x : Nat) (h : qpsA x ≠ 0) : x = 0 ∨ x = 1 ∨ x = 2 := by
  unfold qpsA at h
  by_cases a : x = 0
  · exact Or.inl a
  · by_cases b : x = 1
    · exact Or.inr (Or.inl b)
    · rw [if_neg a, if_neg b] at h
      exact absurd rfl h
theorem ps_D (x : Nat) (h : qpsD x ≠ 0) : x = 0 ∨ x = 1 ∨ x = 2 := by
  unfold qpsD at h
  by_cases a : x = 2
  · exact Or.inr (Or.inr a)
  · by_cases b : x = 0
    · exact Or.inl b
    · rw [if_neg a, if_neg b] at h
      exact absurd rfl h
theorem ps_E (x : Nat) (h : qpsE x ≠ 0) : x = 0 ∨ x = 1 ∨ x = 2 := by
  unfold qpsE at h
  by_cases a : x = 2
  · exact Or.inr (Or.inr a)
  · by_cases b : x = 1
    · exact Or.inr (Or.inl b)
    · rw [if_neg a, if_neg b] at h
      exact absurd rfl h
theorem ps_F (x : Nat) (h : qpsF x ≠ 0) : x = 0 ∨ x = 1 ∨ x = 2 := by
  unfold qpsF at h
  by_cases a : x = 2
  · exact Or.inr (Or.inr a)
  · rw [if_neg a] at h
    exact absurd rfl h
theorem ps_K (x : Nat) (h : qpsK x ≠ 0) : x = 0 ∨ x = 1 ∨ x = 2 := by
  unfold qpsK at h
  by_cases a : x = 1
  · exact Or.inr (Or.inl a)
  · rw [if_neg a] at h
    exact absurd rfl h
theorem ps_0 (x : Nat) (h : (fun _ : Nat => (0 : Int)) x ≠ 0) : x = 0 ∨ x = 1 ∨ x = 2 := absurd rfl h
/-- a call whose answers both houses share -/
def hU1 (b : Bool) (e y : Nat) (as : List zV) : Prop := ∃ (y' : Nat) (ps : Nat → Int), zC1 y = true ∧ zC2 y' = true ∧ hN as ∧ (∀ x, ps x ≠ 0 → x = 0 ∨ x = 1 ∨ x = 2) ∧ ∀ V, qHC V → qUs (gl b) (qG5 V) (zD e y (vr 3 :: as) V) (zD e y' (vr 37 :: as)) ps
theorem u_121 (e : Nat) (he : 300 ≤ e) (a b : Int) : hU1 false e 121 [vi a, vi b] := ⟨228, qps3, rfl, rfl, trivial, ps_3, fun V hV => by
  obtain ⟨⟨⟨⟨hK, hP, hL, hn⟩, ⟨hT, hC, hR, hk⟩, hPo, hY⟩, hBB⟩, hYC, hFc⟩ := id hV
  exact qUs_n (w := qid) (qUn_a hC (q_size e V _ _ (by omega) hK hP hL hT hC hR) (fun m2 f => q5_ff hV f) fun m2 f => q5_fx hV f)⟩
theorem u_125 (e : Nat) (he : 300 ≤ e) (a b : Int) : hU1 true e 125 [vi a, vi b] := ⟨232, qps3, rfl, rfl, trivial, ps_3, fun V hV => by
  obtain ⟨⟨⟨⟨hK, hP, hL, hn⟩, ⟨hT, hC, hR, hk⟩, hPo, hY⟩, hBB⟩, hYC, hFc⟩ := id hV
  exact qUs_n (w := qid) (qUn_a hC (q_ways e V _ _ (by omega) hK hP hL hT hC hR) (fun m2 f => q5_ff hV f) fun m2 f => q5_fx hV f)⟩
theorem u_126 (e : Nat) (he : 300 ≤ e) (a b : Int) : hU1 true e 126 [vi a, vi b] := ⟨233, qps3, rfl, rfl, trivial, ps_3, fun V hV => by
  obtain ⟨⟨⟨⟨hK, hP, hL, hn⟩, ⟨hT, hC, hR, hk⟩, hPo, hY⟩, hBB⟩, hYC, hFc⟩ := id hV
  exact qUs_n (w := qid) (qUn_a hC (q_readings e V _ _ (by omega) hK hP hL hT hC hR) (fun m2 f => q5_ff hV f) fun m2 f => q5_fx hV f)⟩
theorem u_119 (e : Nat) (he : 300 ≤ e) (a b c f s : Int) : hU1 false e 119 [vi a, vi b, vi c, vi f, vi s] := ⟨211, qps3, rfl, rfl, trivial, ps_3, fun V hV => by
  obtain ⟨⟨⟨⟨hK, hP, hL, hn⟩, ⟨hT, hC, hR, hk⟩, hPo, hY⟩, hBB⟩, hYC, hFc⟩ := id hV
  exact qUs_n (qUn_n (q_contrH e V _ _ _ _ _ (by omega) hK hP hT hC (qYb_h hY) hn) (fun S2 q => qGw_k q.2.2.2 hn fun j => by omega) (fun S2 q => by obtain ⟨m2, rfl, f⟩ := q; exact ⟨qFq_1 hC f, fun _ _ => rfl⟩) (fun S2 q => q5_contr hV q.1 q.2.1 q.2.2.1 q.2.2.2) (fun S2 q => by obtain ⟨m2, rfl, f⟩ := q; exact q5_fx hV f))⟩
theorem u_120 (e : Nat) (he : 300 ≤ e) : hU1 false e 120 [] := ⟨213, qpsA, rfl, rfl, trivial, ps_A, fun V hV => by
  obtain ⟨⟨⟨⟨hK, hP, hL, hn⟩, ⟨hT, hC, hR, hk⟩, hPo, hY⟩, hBB⟩, hYC, hFc⟩ := id hV
  exact qUs_n (qUn_n (q_divisH e V (by omega) hK hP hT hC hR (qYb_h hY) hn) (fun S2 q => qGw_k q.2.2 hn fun j => by omega) (fun S2 q => q_divx hn hC q) (fun S2 q => q5_divis hV q.1 q.2.1.1 q.2.1.2.2.1 q.2.2) (fun S2 q => q5_divx hV q))⟩
theorem u_132 (e : Nat) (he : 300 ≤ e) (a : Int) : hU1 false e 132 [vi a] := ⟨255, qps3, rfl, rfl, trivial, ps_3, fun V hV => qUs_n (q_add e V _ (by omega) hV)⟩
theorem u_136 (e : Nat) (he : 300 ≤ e) (a b c : Int) : hU1 false e 136 [vi a, vi b, vi c] := ⟨275, qpsD, rfl, rfl, trivial, ps_D, fun V hV => by
  obtain ⟨⟨⟨⟨hK, hP, hL, hn⟩, ⟨hT, hC, hR, hk⟩, hPo, hY⟩, hBB⟩, hYC, hFc⟩ := id hV
  exact qUs_n (q_renew e V _ _ _ (qG5 V) (by omega) hK hP hPo.1 (q5_0 hV) (fun o c0 c3 p0 p6 t1 t2 => q5_renew hV _ _ _ o c0 c3 p0 p6 t1 t2))⟩
theorem u_137 (e : Nat) (he : 300 ≤ e) (a b : Int) : hU1 false e 137 [vi a, vi b] := ⟨276, qpsE, rfl, rfl, trivial, ps_E, fun V hV => qUs_n (q_emboss5 e V _ _ (by omega) hV)⟩
theorem u_142 (e : Nat) (he : 300 ≤ e) (a b c : Int) : hU1 false e 142 [vi a, vi b, vi c] := ⟨291, qpsF, rfl, rfl, trivial, ps_F, fun V hV => qUs_n (q_teach5 e V _ _ _ (by omega) hV)⟩
theorem u_144 (e : Nat) (he : 300 ≤ e) (a b : Int) : hU1 false e 144 [vi a, vi b] := ⟨296, qpsE, rfl, rfl, trivial, ps_E, fun V hV => qUs_n (q_wish5 e V _ _ (by omega) hV)⟩
theorem u_145 (e : Nat) (he : 300 ≤ e) (a b c : Int) : hU1 false e 145 [vi a, vi b, vi c] := ⟨297, qpsD, rfl, rfl, trivial, ps_D, fun V hV => by
  obtain ⟨⟨⟨⟨hK, hP, hL, hn⟩, ⟨hT, hC, hR, hk⟩, hPo, hY⟩, hBB⟩, hYC, hFc⟩ := id hV
  exact qUs_n (q_secret e V _ _ _ (qG5 V) (by omega) hK hP hY (q5_0 hV) (fun o b0 b1 t0 t1 w0 w1 => q5_secret hV _ _ _ o b0 b1 t0 t1 w0 w1))⟩
theorem u_146 (e : Nat) (he : 300 ≤ e) (a : Int) : hU1 false e 146 [vi a] := ⟨300, qpsA, rfl, rfl, trivial, ps_A, fun V hV => qUs_n (q_pass5 e V _ (by omega) hV)⟩
theorem u_148 (e : Nat) (he : 300 ≤ e) (a b : Int) : hU1 false e 148 [vi a, vi b] := ⟨303, qpsE, rfl, rfl, trivial, ps_E, fun V hV => qUs_n (q_giveBack5 e V _ _ (by omega) hV)⟩
theorem u_133 (e : Nat) (he : 300 ≤ e) (a b c : Int) : hU1 false e 133 [vi a, vi b, vi c] := ⟨268, qpsD, rfl, rfl, trivial, ps_D, fun V hV => qUs_n (q_word5 e V _ _ _ (by omega) hV)⟩
theorem u_134 (e : Nat) (he : 300 ≤ e) (a b : Int) : hU1 false e 134 [vi a, vi b] := ⟨271, qpsD, rfl, rfl, trivial, ps_D, fun V hV => qUs_n (q_ofBook5 e V _ _ (by omega) hV)⟩
theorem u_135 (e : Nat) (he : 300 ≤ e) (a b c f : Int) : hU1 false e 135 [vi a, vi b, vi c, vi f] := ⟨273, qpsF, rfl, rfl, trivial, ps_F, fun V hV => qUs_n (q_at5 e V _ _ _ _ (by omega) hV)⟩
theorem u_138 (e : Nat) (he : 300 ≤ e) (a b c f : Int) : hU1 false e 138 [vi a, vi b, vi c, vi f] := ⟨281, qpsF, rfl, rfl, trivial, ps_F, fun V hV => qUs_n (q_felt5 e V _ _ _ _ (by omega) hV)⟩
theorem u_139 (e : Nat) (he : 300 ≤ e) (a b : Int) : hU1 false e 139 [vi a, vi b] := ⟨287, qpsD, rfl, rfl, trivial, ps_D, fun V hV => qUs_n (q_ofCopy e V _ _ (by omega) hV)⟩
theorem u_143 (e : Nat) (he : 300 ≤ e) (a b : Int) : hU1 false e 143 [vi a, vi b] := ⟨293, qpsF, rfl, rfl, trivial, ps_F, fun V hV => qUs_n (q_unknown5 e V _ _ (by omega) hV)⟩
theorem u_149 (e : Nat) (he : 300 ≤ e) (a b : Int) : hU1 false e 149 [vi a, vi b] := ⟨304, qpsF, rfl, rfl, trivial, ps_F, fun V hV => by
  obtain ⟨⟨⟨⟨hK, hP, hL, hn⟩, ⟨hT, hC, hR, hk⟩, hPo, hY⟩, hBB⟩, hYC, hFc⟩ := id hV
  exact qUs_n (q_ahead e V _ _ (qG5 V) (by omega) hK hP hC hn hY.1 hPo (q5_0 hV) fun m2 f => q5_ff hV f)⟩
theorem u_150 (e : Nat) (he : 300 ≤ e) (a : Int) : hU1 false e 150 [vi a] := ⟨305, qpsF, rfl, rfl, trivial, ps_F, fun V hV => by
  obtain ⟨⟨⟨⟨hK, hP, hL, hn⟩, ⟨hT, hC, hR, hk⟩, hPo, hY⟩, hBB⟩, hYC, hFc⟩ := id hV
  exact qUs_n (q_late e V _ (qG5 V) (by omega) hK hP hC hn hPo (q5_0 hV) fun m2 f => q5_ff hV f)⟩
theorem u_140 (e : Nat) (he : 300 ≤ e) : hU1 false e 140 [] := ⟨288, fun _ => 0, rfl, rfl, trivial, ps_0, fun V hV => qUs_0 (q_sheets5 e V (by omega) hV)⟩
theorem u_147 (e : Nat) (he : 300 ≤ e) : hU1 false e 147 [] := ⟨301, fun _ => 0, rfl, rfl, trivial, ps_0, fun V hV => by
  obtain ⟨⟨⟨⟨hK, hP, hL, hn⟩, ⟨hT, hC, hR, hk⟩, hPo, hY⟩, hBB⟩, hYC, hFc⟩ := id hV
  exact qUs_0 (q_day e V (qG5 V) (by omega) hK hPo.2.1.1 (q5_ff hV (qFq_0 V 0)))⟩
theorem qG5_c {V : zS} (S T : zS) (h : qG5 V S) (h1 : zc T ≤ zc S) (h2 : zw T ≤ zw S) : qG5 V (zrst S T) := by
  obtain ⟨⟨g1, g2, g3⟩, g4, g5⟩ := h
  refine ⟨⟨qHC_e g1 rfl rfl rfl, Nat.le_trans h1 g2, ?_⟩, g4, g5⟩
  have h2 : ((zw T : Nat) : Int) ≤ zw S := by omega
  exact Int.le_trans h2 g3
theorem zaf_cw {d y : Nat} {as : List zV} {S S1 : zS} {o : zO} (h : zinl zAFl y = true) (r : zD d y as S = some (o, S1)) : zc S1 ≤ zc S + 1 ∧ zw S1 ≤ zw S + 6 := by
  obtain ⟨m, -, ⟨v, e⟩ | ⟨x, e⟩⟩ := z_af d y h as S _ r
  · cases e
    exact ⟨Nat.le_succ _, Nat.le_add_right _ _⟩
  · cases e
    exact ⟨Nat.le_refl _, Nat.le_refl _⟩
/-- what a call leaves in both houses -/
def hBo (b : Bool) (e y : Nat) (as : List zV) (V W : zS) (o o' : zO) (V2 W2 : zS) : Prop := ((∃ v, o = .inl (some (gl b v)) ∧ o' = o) ∨ (aX o ∧ aX o')) ∧ (hS e y as o V V2 ∧ hS e y as o' W W2) ∧ hY V2 W2 ∧ (qG5 V V2 ∧ qG5 W W2) ∧ (∀ x j : Int, x < zn V → j < 0 → zm V2 x j = zm V x j) ∧ (zinl zAFl y = true → (zc V2 ≤ zc V + 1 ∧ zw V2 ≤ zw V + 6) ∧ zc W2 ≤ zc W + 1 ∧ zw W2 ≤ zw W + 6) ∧
  ∃ V1 W1, zD e y (vr 3 :: as) V = some (o, V1) ∧ zD e y (vr 3 :: as) W = some (o', W1)
theorem h_both {V W : zS} (h : hY V W) {b : Bool} {e y : Nat} {as : List zV} (u : hU1 b e y as) : ∃ o o' V2 W2, hBo b e y as V W o o' V2 W2 := by
  obtain ⟨⟨Z, a, b', hh⟩, hV, hW, hg⟩ := id h
  obtain ⟨y', ps, c1, c2, ha, hps, u⟩ := u
  obtain ⟨o, o', V1, W1, V2, W2, ⟨y1, y2⟩, al, ⟨s1, s2⟩, ⟨q1, q2⟩, g2, ⟨z1, z2, z3, z4⟩, ng, -⟩ := h_un hh hV hW hg (fun S q => q.1.1) (fun S q => q.1.1) qG5_c qG5_c c1 c2 ha (gl_O b) (u V hV) (u W hW)
  refine ⟨o, o', V2, W2, ?_, ⟨s1, s2⟩, h.go s1 s2 q1.1.1 q2.1.1 g2, ⟨q1, q2⟩, ng, fun hz => ?_, V1, W1, y1, y2⟩
  · rcases al with ⟨v, e1, e2⟩ | ⟨x, x', rfl, rfl, e1, e2⟩
    · exact Or.inl ⟨v, e1, e2⟩
    · exact Or.inr ⟨⟨x, rfl, hps x e1⟩, x', rfl, hps x' e2⟩
  · have p1 := zaf_cw hz y1
    have p2 := zaf_cw hz y2
    omega
