/-! Calls of a house and of its shadow; of two houses whose shadows are the same. -/
theorem hH.k {a b : Int} {Z V W : zS} (h : hH a b Z V W) : zk V 0 = zk W 0 ∧ (zk V 0).1 = 99 := by
  obtain ⟨p, s, ⟨g1, -⟩, ⟨k1, -⟩, -, z0, z2⟩ := h
  have e1 := (g1.2.2 0 0 g1.1.1.1).2.1
  have e2 := (k1.2.2 0 0 k1.1.1.1).2.1
  exact ⟨e1.trans e2.symm, by rw [e1]; exact z0⟩
theorem hG.symm {V W : zS} (h : hG V W) : hG W V := fun x hx => (h x hx).symm
theorem hG.tr {V W X : zS} (h : hG V W) (g : hG W X) : hG V X := fun x hx => (h x hx).trans (g x hx)
/-- the class alone -/
theorem h_cls {V V1 : zS} {d y : Nat} {as : List zV} {o : zO} (hy : zC1 y = true) (ha : hN as) (ho : hO o) (r : zD d y (vr 3 :: as) V = some (o, V1)) : hS d y as o V V1 := fun Z a b W h => by
  obtain ⟨Z1, e, hh, m, c, w, f, -⟩ := h_run h hy ha ho r
  exact ⟨Z1, e, hh, m, by omega, by omega, f⟩
/-- the class, then other memory apart from it -/
theorem h_cls2 {V V1 V2 : zS} {d y : Nat} {as : List zV} {o : zO} (hy : zC1 y = true) (ha : hN as) (ho : hO o) (r : zD d y (vr 3 :: as) V = some (o, V1)) (hm : zmono V1 V2) (hz : ∀ x : Int, x < zn V1 → ¬ (37 ≤ x ∧ x ≤ 102) → zm V2 x = zm V1 x) : hS d y as o V V2 := fun Z a b W h => by
  obtain ⟨Z1, e, hh, m, c, w, f, -⟩ := h_run h hy ha ho r
  have m1 := hm.2.1
  have m2 := hm.2.2.1
  exact ⟨Z1, e, hh.ghost hm hz, m, by omega, by omega, f⟩
/-- the class's run, seen from its shadow -/
theorem h_seen {a b : Int} {Z V W V1 : zS} {d y : Nat} {as : List zV} {o : zO} (h : hH a b Z V W) (hV : qHC V) (hy : zC1 y = true) (ha : hN as) (ho : hO o) (r : zD d y (vr 3 :: as) V = some (o, V1)) :
    qK V1 ∧ zm V1 37 = zm V 37 ∧ qPg (zm V1) ∧ (103 : Int) ≤ zn V1 ∧ zk V1 0 = zk V 0 ∧ hG V1 V ∧ (∀ x j : Int, x < zn V → j < 0 → zm V1 x j = zm V x j) ∧ (∀ x : Int, 37 ≤ x → x ≤ 102 → zm V1 x = zm V x) ∧ zmono V V1 := by
  obtain ⟨-, -, -, -, -, -, -, f1, f2, f3, f4⟩ := h_run h hy ha ho r
  have hK := hV.1.1.1.1
  have hP := hV.1.1.1.2.1
  have hn := hV.1.1.1.2.2.2
  have k := h.k
  have e37 := f2 37 (by decide) (by decide)
  have k0 : zk V1 0 = zk V 0 := f1.2.2.2 0 (by omega)
  refine ⟨hK.mono (by omega) f1, e37, qPg_37 (qPg_P hP) e37, by have := f1.1; omega, k0, fun x hx => ?_, f4, f2, f1⟩
  rcases hx with rfl | rfl | hx
  · exact f3 0 (by omega) (Or.inr k.2)
  · exact f3 2 (by omega) (Or.inl (by rw [K_2 hK]))
  · exact f2 x hx.1 (by omega)
theorem h_qo {S : zS} {o : Int} {x : Int} (h : x ≠ 102) : zm (qo S o) x = zm S x := qu_o _ _ _ _ _ h
theorem h_qoG (S : zS) (o : Int) : hG (qo S o) S := fun x hx => h_qo (by rcases hx with h | h | h <;> omega)
/-- a state with another's counters -/
def zrst (S T : zS) : zS := ((zn S, zc T, zw T), S.2)
theorem qHC_e {S T : zS} (h : qHC S) (e1 : zn T = zn S) (e2 : zk T = zk S) (e3 : zm T = zm S) : qHC T := by
  obtain ⟨⟨n, c, w⟩, k, m⟩ := S
  obtain ⟨⟨n', c', w'⟩, k', m'⟩ := T
  have g1 : n' = n := e1
  have g2 : k' = k := e2
  have g3 : m' = m := e3
  subst g1
  subst g2
  subst g3
  exact h
/-- what is asked of both, in one form -/
def qUs (g : Int → zV) (Q : zS → Prop) (R : zR) (F : zS → zR) (ps : Nat → Int) : Prop := ∃ (o : zO) (v : Int) (S1 T S2 : zS), R = some (o, S1) ∧ F T = some (.inl (some (g v)), S2) ∧ Q S2 ∧ (zn T = zn S1 ∧ zk T = zk S1 ∧ zc T = zc S1 ∧ zw T = zw S1) ∧ (∀ x, x ≠ 102 → zm T x = zm S1 x) ∧ (∀ j : Int, j < 0 → zm T 102 j = zm S1 102 j) ∧
  ((o = .inl (some (g v)) ∧ ∀ x, ps x ≠ 0 → zm S2 37 0 ≠ ps x) ∨ ∃ x, o = .inr x ∧ zm S2 37 0 = ps x ∧ ps x ≠ 0)
theorem qUs_n {g : Int → zV} {w : Int → Int} {Q : zS → Prop} {S : zS} {R : zR} {F : zS → zR} {ps : Nat → Int} (h : qUn g w Q S R F ps) : qUs g Q R F ps := by
  rcases h with ⟨v, S1, r1, -, S2, f1, -, e0, -, q⟩ | ⟨x, v, S1, S2, r1, -, f1, -, e0, e1, q⟩
  · exact ⟨_, v, S1, qo S1 (w v), S2, r1, f1, q, ⟨rfl, rfl, rfl, rfl⟩, fun x hx => h_qo hx, fun j hj => (show qu (zm S1) 102 0 (w v) 102 j = zm S1 102 j from qu_i _ _ _ _ _ (by omega)), Or.inl ⟨rfl, fun x hx e => hx (by rw [← e, e0])⟩⟩
  · exact ⟨_, v, S1, S1, S2, r1, f1, q, ⟨rfl, rfl, rfl, rfl⟩, fun _ _ => rfl, fun _ _ => rfl, Or.inr ⟨x, rfl, e0, e1⟩⟩
theorem qUs_0 {Q : zS → Prop} {S : zS} {R : zR} {F : zS → zR} (h : qUn0 Q S R F) : qUs vi Q R F (fun _ => 0) := by
  obtain ⟨v, S1, S2, r1, -, f1, -, q⟩ := h
  exact ⟨_, v, S1, S1, S2, r1, f1, q, ⟨rfl, rfl, rfl, rfl⟩, fun _ _ => rfl, fun _ _ => rfl, Or.inl ⟨rfl, fun x hx => absurd rfl hx⟩⟩
/-- a call of both houses: they answer alike, or both throw -/
theorem h_un {a b : Int} {Z V W : zS} (h : hH a b Z V W) (hV : qHC V) (hW : qHC W) (hg : hG V W) {g : Int → zV} {ps : Nat → Int} {d y d' y' : Nat} {as : List zV} {QV QW : zS → Prop} (hQV : ∀ S, QV S → qHC S) (hQW : ∀ S, QW S → qHC S) (cQV : ∀ S T, QV S → zc T ≤ zc S → zw T ≤ zw S → QV (zrst S T)) (cQW : ∀ S T, QW S → zc T ≤ zc S → zw T ≤ zw S → QW (zrst S T))
    (hy : zC1 y = true) (hy' : zC2 y' = true) (ha : hN as) (hgo : ∀ v, hO (.inl (some (g v))))
    (uV : qUs g QV (zD d y (vr 3 :: as) V) (zD d' y' (vr 37 :: as)) ps) (uW : qUs g QW (zD d y (vr 3 :: as) W) (zD d' y' (vr 37 :: as)) ps) :
    ∃ (o o' : zO) (V1 W1 V2 W2 : zS), (zD d y (vr 3 :: as) V = some (o, V1) ∧ zD d y (vr 3 :: as) W = some (o', W1)) ∧ ((∃ v, o = .inl (some (g v)) ∧ o' = o) ∨ ∃ x x', o = .inr x ∧ o' = .inr x' ∧ ps x ≠ 0 ∧ ps x' ≠ 0) ∧ (hS d y as o V V2 ∧ hS d y as o' W W2) ∧ (QV V2 ∧ QW W2) ∧ hG V2 W2 ∧
      (zc V2 = zc V1 ∧ zw V2 = zw V1 ∧ zc W2 = zc W1 ∧ zw W2 = zw W1) ∧ (∀ x j : Int, x < zn V → j < 0 → zm V2 x j = zm V x j) ∧ ∀ x : Int, x < zn V1 → ¬ (37 ≤ x ∧ x ≤ 102) → zm V2 x = zm V1 x := by
  have k := h.k
  have k' := h.symm.k
  obtain ⟨o, v, S1, T, S2, r1, f1, q, ⟨t1, t2, t3, t4⟩, t5, t6, al⟩ := uV
  obtain ⟨o', v', S1', T', S2', r1', f1', q', ⟨t1', t2', t3', t4'⟩, t5', t6', al'⟩ := uW
  have oo : hO o := by
    rcases al with ⟨rfl, -⟩ | ⟨x, rfl, -⟩
    · exact hgo v
    · exact trivial
  have oo' : hO o' := by
    rcases al' with ⟨rfl, -⟩ | ⟨x, rfl, -⟩
    · exact hgo v'
    · exact trivial
  obtain ⟨a1, a2, a3, a4, a5, a6, a7, a8, a9⟩ := h_seen h hV hy ha oo r1
  obtain ⟨b1, b2, b3, b4, b5, b6, b7, b8, b9⟩ := h_seen h.symm hW hy ha oo' r1'
  have kT : qK T := fun q hq => by rw [t2]; exact a1 q hq
  have kT' : qK T' := fun q hq => by rw [t2']; exact b1 q hq
  have pT : qPg (zm T) := qPg_37 a3 (t5 37 (by decide))
  have pT' : qPg (zm T') := qPg_37 b3 (t5' 37 (by decide))
  have g0 : ∀ x, gs x → x ≠ 102 := fun x hx => by rcases hx with h | h | h <;> omega
  have gT : hG T V := fun x hx => (t5 x (g0 x hx)).trans (a6 x hx)
  have gT' : hG T' W := fun x hx => (t5' x (g0 x hx)).trans (b6 x hx)
  have e99 : (zk T 0).1 = 99 := by rw [t2, a5]; exact k.2
  have e99' : (zk T' 0).1 = 99 := by rw [t2', b5]; exact k'.2
  obtain ⟨W2, z1, z2⟩ := h_alike (V := T) (W := T') kT kT' pT pT' (by omega) (by omega) (by rw [t2, t2', a5, b5]; exact k.1) e99 (gT.tr (hg.tr gT'.symm)) hy' ha (hgo v) f1
  rw [f1'] at z1
  have ev : g v' = g v := by
    have := congrArg Prod.fst (Option.some.inj z1)
    exact Option.some.inj (Sum.inl.inj this)
  have eW : S2' = W2 := congrArg Prod.snd (Option.some.inj z1)
  subst eW
  have g2 : hG S2 S2' := z2 (qPg_P (hQV S2 q).1.1.1.2.1) (qPg_P (hQW S2' q').1.1.1.2.1)
  have e37 : zm S2 37 0 = zm S2' 37 0 := by rw [g2 37 (Or.inr (Or.inr (by decide)))]
  obtain ⟨c1, c2, c3⟩ := h_ghost (V := T) kT pT (by omega) e99 hy' ha f1
  obtain ⟨d1, d2, d3⟩ := h_ghost (V := T') kT' pT' (by omega) e99' hy' ha f1'
  have m1 : zmono S1 (zrst S2 S1) := ⟨by have := c1.1; show zn S1 ≤ zn S2; omega, Nat.le_refl _, Nat.le_refl _, fun x hx => by rw [← t2]; exact c1.2.2.2 x (by omega)⟩
  have m1' : zmono S1' (zrst S2' S1') := ⟨by have := d1.1; show zn S1' ≤ zn S2'; omega, Nat.le_refl _, Nat.le_refl _, fun x hx => by rw [← t2']; exact d1.2.2.2 x (by omega)⟩
  have fr : ∀ x : Int, x < zn S1 → ¬ (37 ≤ x ∧ x ≤ 102) → zm S2 x = zm S1 x := fun x hx hn => (c2 x (by omega) (by omega)).trans (t5 x (by omega))
  have fr' : ∀ x : Int, x < zn S1' → ¬ (37 ≤ x ∧ x ≤ 102) → zm S2' x = zm S1' x := fun x hx hn => (d2 x (by omega) (by omega)).trans (t5' x (by omega))
  refine ⟨o, o', S1, S1', zrst S2 S1, zrst S2' S1', ⟨r1, r1'⟩, ?_, ⟨h_cls2 hy ha oo r1 m1 fr, h_cls2 hy ha oo' r1' m1' fr'⟩, ⟨cQV _ _ q (by rw [← t3]; exact c1.2.1) (by rw [← t4]; exact c1.2.2.1), cQW _ _ q' (by rw [← t3']; exact d1.2.1) (by rw [← t4']; exact d1.2.2.1)⟩, g2, ⟨rfl, rfl, rfl, rfl⟩, fun x j hx hj => ?_, fr⟩
  · rcases al with ⟨rfl, p⟩ | ⟨x, rfl, p, p'⟩
    · rcases al' with ⟨rfl, -⟩ | ⟨x', rfl, e0, e1⟩
      · exact Or.inl ⟨v, rfl, by rw [ev]⟩
      · exact absurd (e37.trans e0) (p x' e1)
    · rcases al' with ⟨rfl, e0⟩ | ⟨x', rfl, e0, e1⟩
      · exact absurd (e37.symm.trans p) (e0 x p')
      · exact Or.inr ⟨x, x', rfl, rfl, p', e1⟩
  · have l := a9.1
    show zm S2 x j = zm V x j
    rw [c3 x j (by omega) hj]
    by_cases c : x = 102
    · rw [c, t6 j hj, ← c]
      exact a7 x j hx hj
    · rw [t5 x c]
      exact a7 x j hx hj
/-! Questions: the shadow is left out. -/
/-- the class of V2 with the shadow of V -/
def hZm (V2 V : zS) : Int → Int → Int := fun x => if 37 ≤ x ∧ x ≤ 102 then zm V x else if x < zn V then zm V2 x else zm V x
theorem hZm_q {V V2 : zS} (f : qFq V (zm V2)) : qFq V (hZm V2 V) := fun x j q => by
  unfold hZm
  split
  · rfl
  · split
    · exact f x j q
    · rfl
/-- what a question leaves -/
def hD (V V2 : zS) : Prop := qHC V2 ∧ zn V ≤ zn V2 ∧ (∀ x, gs x ∨ x = 102 → zm V2 x = zm V x) ∧ ∀ x j : Int, x < zn V → j < 0 → zm V2 x j = zm V x j
theorem hD.G {V V2 : zS} (h : hD V V2) : hG V2 V := fun x hx => h.2.2.1 x (Or.inl hx)
theorem hD.rf {V : zS} (hV : qHC V) : hD V V := ⟨hV, Nat.le_refl _, fun _ _ => rfl, fun _ _ _ _ => rfl⟩
theorem hD.b {V : zS} (hV : qHC V) : hD V (zbump V) := ⟨qHC_e hV rfl rfl rfl, Nat.le_refl _, fun _ _ => rfl, fun _ _ _ _ => rfl⟩
theorem hD.tr {A B C : zS} (h : hD A B) (g : hD B C) : hD A C := by
  obtain ⟨h1, h2, h3, h4⟩ := h
  obtain ⟨g1, g2, g3, g4⟩ := g
  exact ⟨g1, Nat.le_trans h2 g2, fun x q => (g3 x q).trans (h3 x q), fun x j a b => (g4 x j (by omega) b).trans (h4 x j a b)⟩
theorem h_ask {a b : Int} {Z V W : zS} (h : hH a b Z V W) (hV : qHC V) {g : Int → zV} {ps : Nat → Int} {d y d' y' : Nat} {as : List zV} (hy : zC1 y = true) (hy' : zC2 y' = true) (ha : hN as) (hgo : ∀ v, hO (.inl (some (g v))))
    (u : qAsk g V (zD d y (vr 3 :: as) V) (zD d' y' (vr 37 :: as)) ps) :
    ∃ o V1 V2, zD d y (vr 3 :: as) V = some (o, V1) ∧ ((∃ v, o = .inl (some (g v)) ∧ zc V2 = zc V ∧ zw V2 = zw V) ∨ ∃ x, o = .inr x ∧ ps x ≠ 0 ∧ zc V2 = zc V + 1 ∧ zw V2 = zw V + 6) ∧ hS d y as o V V2 ∧ hD V V2 := by
  have k := h.k
  have hn := hV.1.1.1.2.2.2
  rcases u with ⟨v, m1, r, -, hF⟩ | ⟨x, v, m1, m2, r, -, f, -, hx, q⟩
  · obtain ⟨m2, f, -, -, q⟩ := hF 0
    obtain ⟨a1, a2, a3, a4, a5, a6, a7, a8, a9⟩ := h_seen h hV hy ha (hgo v) r
    have p3 : qPg (zm (qo (qW V m1) 0)) := qPg_37 a3 (h_qo (by decide))
    obtain ⟨c1, c2, c3⟩ := h_ghost (V := qo (qW V m1) 0) a1 p3 a4 k.2 hy' ha f
    have q2 := hZm_q (V2 := qW V m2) q
    have fr : ∀ x : Int, x < zn V → ¬ (37 ≤ x ∧ x ≤ 102) → m2 x = m1 x := fun x hx hg => (c2 x hx (by omega)).trans (h_qo (S := qW V m1) (by omega))
    refine ⟨_, _, qW V (hZm (qW V m2) V), r, Or.inl ⟨v, rfl, rfl, rfl⟩, h_cls2 hy ha (hgo v) r (zmono.rf _) (fun x hx hg => ?_), (q5_ff hV q2).1.1, Nat.le_refl _, fun x hx => ?_, fun x j hx hj => ?_⟩
    · have hx : x < ((zn V : Nat) : Int) := hx
      show (if 37 ≤ x ∧ x ≤ 102 then zm V x else if x < zn V then m2 x else zm V x) = m1 x
      rw [if_neg hg, if_pos hx]
      exact fr x hx hg
    · show (if 37 ≤ x ∧ x ≤ 102 then zm V x else if x < zn V then m2 x else zm V x) = zm V x
      by_cases c : 37 ≤ x ∧ x ≤ 102
      · exact if_pos c
      · have hx' : gs x := hx.resolve_right fun e => c (by omega)
        have hl : x < ((zn V : Nat) : Int) := by rcases hx' with q | q | q <;> omega
        rw [if_neg c, if_pos hl, fr x hl c]
        exact a6 x hx'
    · show (if 37 ≤ x ∧ x ≤ 102 then zm V x else if x < zn V then m2 x else zm V x) j = zm V x j
      by_cases c : 37 ≤ x ∧ x ≤ 102
      · rw [if_pos c]
      · rw [if_neg c, if_pos hx, fr x hx c]
        exact a7 x j hx hj
  · obtain ⟨a1, a2, a3, a4, a5, a6, a7, a8, a9⟩ := h_seen (o := .inr _) h hV hy ha trivial r
    obtain ⟨c1, c2, c3⟩ := h_ghost (V := zbump (qW V m1)) a1 a3 a4 k.2 hy' ha f
    have q2 := hZm_q (V2 := qW V m2) q
    have fr : ∀ x : Int, x < zn V → ¬ (37 ≤ x ∧ x ≤ 102) → m2 x = m1 x := fun x hx hg => c2 x hx (by omega)
    refine ⟨_, _, zbump (qW V (hZm (qW V m2) V)), r, Or.inr ⟨x, rfl, hx, rfl, rfl⟩, h_cls2 (o := .inr _) hy ha trivial r (zmono.rf _) (fun x hx hg => ?_), (q5_fx hV q2).1.1, Nat.le_refl _, fun x hx => ?_, fun x j hx hj => ?_⟩
    · have hx : x < ((zn V : Nat) : Int) := hx
      show (if 37 ≤ x ∧ x ≤ 102 then zm V x else if x < zn V then m2 x else zm V x) = m1 x
      rw [if_neg hg, if_pos hx]
      exact fr x hx hg
    · show (if 37 ≤ x ∧ x ≤ 102 then zm V x else if x < zn V then m2 x else zm V x) = zm V x
      by_cases c : 37 ≤ x ∧ x ≤ 102
      · exact if_pos c
      · have hx' : gs x := hx.resolve_right fun e => c (by omega)
        have hl : x < ((zn V : Nat) : Int) := by rcases hx' with q | q | q <;> omega
        rw [if_neg c, if_pos hl, fr x hl c]
        exact a6 x hx'
    · show (if 37 ≤ x ∧ x ≤ 102 then zm V x else if x < zn V then m2 x else zm V x) j = zm V x j
      by_cases c : 37 ≤ x ∧ x ≤ 102
      · rw [if_pos c]
      · rw [if_neg c, if_pos hx, fr x hx c]
        exact a7 x j hx hj
/-- a question that writes nothing -/
theorem h_pure {V : zS} {d y : Nat} {as : List zV} (hy : zC1 y = true) (hp : zinl zPUl y = true) (ha : hN as) {o : zO} (ho : hO o) {V1 : zS} (r : zD d y (vr 3 :: as) V = some (o, V1)) : ((∃ v, o = .inl v ∧ V1 = V) ∨ ∃ x, o = .inr x ∧ V1 = zbump V) ∧ hS d y as o V V1 := by
  refine ⟨?_, h_cls hy ha ho r⟩
  rcases z_pu2 d y hp _ _ _ r with ⟨v, e⟩ | ⟨x, e⟩
  · cases e
    exact Or.inl ⟨v, rfl, rfl⟩
  · cases e
    exact Or.inr ⟨x, rfl, rfl⟩
