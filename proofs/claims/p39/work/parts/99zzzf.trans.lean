/-! What each call that changes a house leaves. -/
theorem qGo_g {S S2 : zS} (H : qHC S2) (hc : zc S2 ≤ zc S + 500) (hw : zw S2 ≤ zw S + 2000) (e1 : zm S2 37 16 = zm S 37 16) (e2 : zm S2 37 65 = zm S 37 65) : qGo S S2 := ⟨H, hc, by rw [e1, e2]; omega⟩
theorem qg_x {S : zS} (hH : qHC S) {m2 : Int → Int → Int} (f : qFq S m2) : qGo S (zbump (qW S m2)) := qGo_x hH (qFx_q f) (qHC_f hH f)
theorem qg_f {S : zS} (hH : qHC S) {m2 : Int → Int → Int} (f : qFq S m2) : qGo S (qW S m2) := qGo_f hH (qFx_q f) (qHC_f hH f)
theorem qg_0 {S : zS} (hH : qHC S) (v : Int) : qGo S (zbump (qW S (qu (zm S) 37 0 v))) := qg_x hH (qFq_0 S v)
theorem qg_type {S : zS} (hH : qHC S) {m2 : Int → Int → Int} (q : qFtp S m2 ∧ qRT (qW S m2)) : qGo S (qW S m2) := by
  have a : qAg S (qW S m2) (qEk_type S) := ⟨⟨Nat.le_refl _, fun _ _ => rfl⟩, fun x j _ he => q.1 x j he⟩
  exact qGo_w (qk_type hH a q.2) (q.1 37 16 (by omega)) (q.1 37 65 (by omega))
theorem qg_code {S S2 : zS} (hH : qHC S) (x : zm S2 37 4 = zm S 37 4 + 1 ∧ ∀ i, 0 ≤ i → i < zm S 37 4 → zm S2 6 i = zm S 6 i) (c : qRC S2) (g : qGw S S2 5 5 61 fun x j => x = 102 ∨ x = 3 ∧ j = 2 ∨ x = 6 ∨ x = 37 ∧ (j = 0 ∨ j = 4)) : qGo S S2 := by
  have hn := hH.1.1.1.2.2.2
  obtain ⟨g1, g2, g3, g4, g5⟩ := g
  have a : qAg S S2 (qEk_code S) := ⟨⟨by omega, g4⟩, fun x j hx he => g5 x j hx he⟩
  have cYb := qYb_k hH.1.1.2.2.2 a hn (fun x j q => by have q := qfB_n q; unfold qEk_code; omega) (by omega) x.2
  exact qGo_g (qk_code hH a c cYb) (by omega) (by omega) (g5 37 16 (by omega) (by omega)) (g5 37 65 (by omega) (by omega))
/-- a book rests on few rows of codes and divisions -/
theorem qBB_g {S S2 : zS} {E : Int → Int → Prop} {b : Int} (hs : qBs S (zm S 8 b) b) (h : qBB S b) (a : qAg S S2 E) (hn : 103 ≤ (zn S : Int)) (he : ∀ z i, z = 8 ∨ (49 ≤ z ∧ z ≤ 61) ∨ (71 ≤ z ∧ z ≤ 80) ∨ (z = 37 ∧ (i = 50 ∨ i = 51 ∨ i = 53 ∨ i = 63)) ∨ qfbn S z i → ¬ E z i) (hb : zm S 54 b = 0 ∨ ((∀ N T, qTok T N → qRc (zm S) (zm S 49 b) N T → qRc (zm S2) (zm S 49 b) N T) ∧ ∀ W dg, qPw (zm S2) W dg = qPw (zm S) W dg)) : qBB S2 b := by
  have hx := (qBs_x hs).1
  have hb0 := h
  obtain ⟨J, fL, fE, fA, fU, fM, P, l, h0, h1⟩ := h
  have lo : ∀ z, z = 8 ∨ (49 ≤ z ∧ z ≤ 61) ∨ (71 ≤ z ∧ z ≤ 80) → zm S2 z = zm S z := fun z hz => qAg_r a (by omega) fun i => he z i (by omega)
  have l3 : ∀ i, i = 50 ∨ i = 51 ∨ i = 53 ∨ i = 63 → zm S2 37 i = zm S 37 i := fun i hi => a.2 37 i (by omega) (he 37 i (by omega))
  have e : ∀ z i, qfb S b (zm S 8 b) z i → zm S2 z i = zm S z i := fun z i hz => a.2 z i (by
    rcases hz with q | q | q | ⟨j, j1, j2, z1, z2⟩
    · omega
    · omega
    · omega
    · obtain ⟨⟨e1, -⟩, a4, -⟩ := h0
      obtain ⟨w1, -⟩ := a4 j.toNat (by omega)
      rw [show ((j.toNat : Nat) : Int) = j by omega] at w1
      have := (qWw_b w1).1.2.2
      omega) (he z i (Or.inr (Or.inr (Or.inr (Or.inr (qfb_n hs hb0 hz))))))
  refine ⟨J, fL, fE, fA, fU, fM, P, l, ?_, ?_⟩
  · rw [lo 8 (by omega), lo 51 (by omega), lo 52 (by omega)]
    obtain ⟨x, hxx⟩ : ∃ x, zm S 8 b = x := ⟨_, rfl⟩
    rw [hxx] at h0 e hx ⊢
    obtain ⟨⟨a1, a2, a3⟩, a4, a5⟩ := h0
    have e1 : zm S2 (x + 1) = zm S (x + 1) := funext fun i => e _ i (Or.inr (Or.inl rfl))
    have e2 : zm S2 (x + 2) = zm S (x + 2) := funext fun i => e _ i (Or.inr (Or.inr (Or.inl rfl)))
    refine ⟨⟨by rw [lo 54 (by omega)]; exact a1, a2, a3⟩, fun j hj => ?_, qCB_o a5 (fun i hi => e x i (Or.inl ⟨rfl, by omega, by omega, by omega⟩)) e2⟩
    obtain ⟨hc, hp⟩ := hb.resolve_left (by omega)
    obtain ⟨w1, w2⟩ := a4 j hj
    rw [e1]
    have ez : ∀ z, zm S (x + 1) j ≤ z → z ≤ zm S (x + 1) j + 5 → zm S2 z = zm S z := fun z z1 z2 => funext fun i => e z i (Or.inr (Or.inr (Or.inr ⟨j, by omega, by omega, z1, z2⟩)))
    refine ⟨?_, qBw_w w2 (ez _ (by omega) (by omega))⟩
    obtain ⟨W, dg, st, bg, mk, c, N, g', T, p, ⟨⟨w1, wk, w3⟩, ⟨v1, v2, rc, tk⟩, ⟨p1, p2, p3⟩, r⟩, h2, h3, h4⟩ := w1
    have hr : qKr (zm S) (zm S2) b j := ⟨fun x x1 x2 => by rw [lo x (by omega)], fun x hx => by rw [lo x (by omega)], fun i i1 i2 => by rw [lo 58 (by omega)]⟩
    exact ⟨W, dg, st, bg, mk, c, N, g', T, p, ⟨⟨qWr_k w1 wk.1.2 hr, wk, by rw [lo 61 (by omega)]; exact w3⟩, ⟨by rw [lo 49 (by omega)]; exact v1, by rw [lo 50 (by omega)]; exact v2, by rw [← v1]; rw [← v1] at rc; exact hc N T tk rc, tk⟩, ⟨by rw [hp]; exact p1, p2, p3⟩, r⟩, qWb_w h2 a.1 ez, qSq_o h3 (ez _ (by omega) (by omega)) (ez _ (by omega) (by omega)), qWp_o h4 (ez _ (by omega) (by omega)) (ez _ (by omega) (by omega)) (ez _ (by omega) (by omega))⟩
  · rw [lo 51 (by omega), lo 52 (by omega)]
    exact qBl_e h1 (fun x x1 x2 => lo x (by omega)) (l3 53 (by omega)) (l3 63 (by omega)) (l3 50 (by omega)) (l3 51 (by omega))
theorem qhwf_0 {m : Int → Int → Int} {c : Int} : ∀ n : Nat, qhwf m c n = 0 → ∀ k : Nat, k < n → (c = -1 ∨ m 49 k = c) → m 54 k ≤ 0 := by
  intro n
  induction n with
  | zero => intro _ k hk; omega
  | succ n ih =>
    intro h k hk hc
    rw [qhwf] at h
    by_cases c1 : qhwf m c n = 0
    · rw [if_pos c1] at h
      by_cases q : k = n
      · subst q
        by_cases c2 : 0 < m 54 k ∧ (c = -1 ∨ m 49 k = c)
        · rw [if_pos c2] at h
          exact absurd h (by decide)
        · have : ¬ 0 < m 54 k := fun z => c2 ⟨z, hc⟩
          omega
      · exact ih c1 k (by omega) hc
    · rw [if_neg c1] at h
      exact absurd h (by decide)
theorem qg_contr {S S2 : zS} {c : Int} (hH : qHC S) (x : (∀ c' N T, c' ≠ c → qTok T N → qRc (zm S) c' N T → qRc (zm S2) c' N T) ∧ qhwf (zm S) c (zm S 37 16).toNat = 0) (rc : qRC S2) (rt : qRT S2) (g : qGw S S2 2 2 12 fun x j => x = 102 ∨ x = 4 ∧ j = 1 ∨ 39 ≤ x ∧ x ≤ 45 ∨ x = 37 ∧ (j = 0 ∨ j = 2) ∨ 103 ≤ x ∧ (zk S x = (22, 0) ∨ zk S x = (12, 24))) : qGo S S2 := by
  have hn := hH.1.1.1.2.2.2
  have hY := hH.1.1.2.2.2
  obtain ⟨g1, g2, g3, g4, g5⟩ := g
  have a : qAg S S2 (qEk_contr S) := ⟨⟨by omega, g4⟩, fun x j hx he => g5 x j hx (by
    unfold qEk_contr at he
    intro q
    rcases q with q | q | q | q | ⟨q, q2⟩
    · exact he (by omega)
    · exact he (by omega)
    · exact he (by omega)
    · exact he (by omega)
    · rcases q2 with q2 | q2
      · have := qknn q2; exact he (by omega)
      · have := qknn q2; exact he (by omega))⟩
  have e16 : zm S2 37 16 = zm S 37 16 := a.2 37 16 (by omega) (by unfold qEk_contr; omega)
  have lo : ∀ z, z = 46 ∨ z = 47 ∨ z = 48 → zm S2 z = zm S z := fun z hz => qAg_r a (by omega) fun i => by unfold qEk_contr; omega
  have e12 : zm S2 37 12 = zm S 37 12 := a.2 37 12 (by omega) (by unfold qEk_contr; omega)
  refine qGo_g (qk_contr hH a rt rc fun b b1 b2 => ?_) (by omega) (by omega) e16 (a.2 37 65 (by omega) (by unfold qEk_contr; omega))
  rw [e16] at b2
  have hs := hY.2.1 b b1 b2
  refine qBB_g hs (hH.1.2 b b1 b2) a hn (fun z i q => by unfold qfbn at q; unfold qEk_contr; omega) ?_
  by_cases q : zm S 49 b = c
  · have := qhwf_0 (zm S 37 16).toNat x.2 b.toNat (by omega) (Or.inr (by rw [show ((b.toNat : Nat) : Int) = b by omega]; exact q))
    rw [show ((b.toNat : Nat) : Int) = b by omega] at this
    have h54 := hs.2.2.2.2.2.2.2.1.2.1
    exact Or.inl (by omega)
  · exact Or.inr ⟨fun N T tk r => x.1 _ N T q tk r, fun W dg => qPw_e e12 (lo 46 (by omega)) (lo 47 (by omega)) (lo 48 (by omega)) W dg⟩
theorem qg_divis {S S2 : zS} (hH : qHC S) (x : zm S2 37 12 = zm S 37 12 + 1 ∧ (∀ k, 0 ≤ k → k < zm S 37 12 → zm S2 47 k = zm S 47 k ∧ zm S2 48 k = zm S 48 k) ∧ (∃ p L : Nat, zm S2 48 (zm S 37 12) = (p : Int) ∧ zm S2 47 (zm S 37 12) = (L : Int) ∧ qPk p L) ∧ qhwf (zm S) (-1) (zm S 37 16).toNat = 0) (rt : qRT S2) (rd : qRD S2) (g : qGw S S2 3 3 18 fun x j => x = 102 ∨ x = 3 ∧ j = 4 ∨ x = 4 ∧ j = 1 ∨ x = 7 ∨ 46 ≤ x ∧ x ≤ 48 ∨ x = 64 ∨ x = 37 ∧ (j = 0 ∨ j = 2 ∨ j = 12 ∨ j = 33 ∨ j = 36 ∨ j = 38)) : qGo S S2 := by
  have hn := hH.1.1.1.2.2.2
  have hY := hH.1.1.2.2.2
  have hk := hH.1.1.2.1.2.2.2
  obtain ⟨g1, g2, g3, g4, g5⟩ := g
  obtain ⟨x1, x2, ⟨p, L, x3, x4, x5⟩, x6⟩ := x
  have a : qAg S S2 (qEk_divis S) := ⟨⟨by omega, g4⟩, fun x j hx he => g5 x j hx he⟩
  have e16 : zm S2 37 16 = zm S 37 16 := a.2 37 16 (by omega) (by unfold qEk_divis; omega)
  have kK : qRK S2 := fun k k1 k2 => by
    by_cases q : k = zm S 37 12
    · rw [q]
      exact ⟨p, L, x3, x4, x5⟩
    · obtain ⟨p, n, y1, y2, y3⟩ := hk k k1 (by omega)
      obtain ⟨z1, z2⟩ := x2 k k1 (by omega)
      exact ⟨p, n, by rw [z2]; exact y1, by rw [z1]; exact y2, y3⟩
  refine qGo_g (qk_divis hH a rt rd kK fun b b1 b2 => ?_) (by omega) (by omega) e16 (a.2 37 65 (by omega) (by unfold qEk_divis; omega))
  rw [e16] at b2
  have hs := hY.2.1 b b1 b2
  refine qBB_g hs (hH.1.2 b b1 b2) a hn (fun z i q => by unfold qfbn at q; unfold qEk_divis; omega) (Or.inl ?_)
  have := qhwf_0 (zm S 37 16).toNat x6 b.toNat (by omega) (Or.inl rfl)
  rw [show ((b.toNat : Nat) : Int) = b by omega] at this
  have h54 := hs.2.2.2.2.2.2.2.1.2.1
  omega
/-- nothing that is known was touched -/
theorem qHC_nw {S T : zS} (hH : qHC S) (a : qAg S T fun _ _ => False) : qHC T := by
  have hn := hH.1.1.1.2.2.2
  have e : ∀ z j, z < 103 → zm T z j = zm S z j := fun z j hz => a.2 z j (by omega) (fun q => q)
  refine qk_renew hH ⟨a.1, fun z j hz _ => a.2 z j hz (fun q => q)⟩ fun e' p e1 e2 p1 p2 => ?_
  rw [e (10 + e') p (by omega), e 81 _ (by omega)]
  exact hH.1.1.2.2.1.1 e' p e1 e2 p1 p2
theorem qg_divx {S S2 : zS} (hH : qHC S) (q : ∃ T m2, S2 = zbump (qW T m2) ∧ (T = S ∨ qGw S T 3 3 18 fun _ _ => False) ∧ qFq T m2) : qGo S S2 := by
  have hn := hH.1.1.1.2.2.2
  obtain ⟨T, m2, rfl, h, f⟩ := q
  rcases h with rfl | ⟨g1, g2, g3, g4, g5⟩
  · exact qg_x hH f
  · have HT : qHC T := qHC_nw hH ⟨⟨by omega, g4⟩, g5⟩
    obtain ⟨e1, e2⟩ := qGo_e HT (qFx_q f)
    have d1 := g5 37 16 (by omega) (fun q => q)
    have d2 := g5 37 65 (by omega) (fun q => q)
    refine ⟨qHC_f HT f, by show zc T + 1 ≤ zc S + 500; omega, ?_⟩
    show ((zw T + 6 : Nat) : Int) ≤ zw S + 2000 + 15000 * ((m2 37 16 + m2 37 65) - (zm S 37 16 + zm S 37 65))
    rw [e1, e2, d1, d2]
    omega
theorem qg_renew {S : zS} (hH : qHC S) (c p t o : Int) (c0 : 0 ≤ c) (c3 : c < 3) (p0 : 0 ≤ p) (p6 : p < 6) (t1 : 1 ≤ t) (t2 : t ≤ 100000) : qGo S (qW S (qu (qu (qu (qu (zm S) (10 + c) p t) 102 0 o) 37 0 0) 81 (6 * c + p) t)) := by
  obtain ⟨M, hM⟩ : ∃ M, qu (qu (qu (qu (zm S) (10 + c) p t) 102 0 o) 37 0 0) 81 (6 * c + p) t = M := ⟨_, rfl⟩
  rw [hM]
  have o1 : ∀ z, z ≠ 10 + c → z ≠ 102 → z ≠ 37 → z ≠ 81 → M z = zm S z := fun z h1 h2 h3 h4 => by rw [← hM, qu_o _ _ _ _ _ h4, qu_o _ _ _ _ _ h3, qu_o _ _ _ _ _ h2, qu_o _ _ _ _ _ h1]
  have o37 : ∀ j, j ≠ 0 → M 37 j = zm S 37 j := fun j hj => by rw [← hM, qu_o _ _ _ _ _ (by decide), qu_i _ _ _ _ _ hj, qu_o _ _ _ _ _ (by decide), qu_o _ _ _ _ _ (by omega)]
  have o81 : ∀ i, M 81 i = if i = 6 * c + p then t else zm S 81 i := fun i => by
    rw [← hM, qu_row]
    show (if i = 6 * c + p then t else qu (qu (qu (zm S) (10 + c) p t) 102 0 o) 37 0 0 81 i) = _
    rw [qu_o _ _ _ _ _ (by decide), qu_o _ _ _ _ _ (by decide), qu_o _ _ _ _ _ (by omega)]
  have o10 : ∀ i, M (10 + c) i = if i = p then t else zm S (10 + c) i := fun i => by
    rw [← hM, qu_o _ _ _ _ _ (by omega), qu_o _ _ _ _ _ (by omega), qu_o _ _ _ _ _ (by omega), qu_row]
  have a : qAg S (qW S M) (qEk_renew S) := ⟨⟨Nat.le_refl _, fun _ _ => rfl⟩, fun x j _ he => by
    unfold qEk_renew at he
    show M x j = zm S x j
    by_cases q : x = 37
    · subst q
      exact o37 j (by omega)
    · rw [o1 x (by omega) (by omega) q (by omega)]⟩
  refine qGo_w (qk_renew hH a fun e' q e1 e2 q1 q2 => ?_) (o37 16 (by decide)) (o37 65 (by decide))
  obtain ⟨y1, y2, y3⟩ := hH.1.1.2.2.1.1 e' q e1 e2 q1 q2
  show M (10 + e') q = M 81 (6 * e' + q) ∧ 0 ≤ M 81 (6 * e' + q) ∧ M 81 (6 * e' + q) ≤ 100000
  rw [o81]
  by_cases ce : e' = c
  · subst ce
    rw [o10]
    by_cases cq : q = p
    · rw [if_pos cq, if_pos (by omega)]
      omega
    · rw [if_neg cq, if_neg (by omega)]
      exact ⟨y1, y2, y3⟩
  · rw [if_neg (by omega), o1 (10 + e') (by omega) (by omega) (by omega) (by omega)]
    exact ⟨y1, y2, y3⟩
