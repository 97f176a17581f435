/-! The reference's tree is the tree. -/
theorem qFt_w {b b1 : Int} {m m1 : Int → Int → Int} (h : qFt b1 m m1) (hb : b ≤ b1) : qFt b m m1 := ⟨h.1, fun a i h1 h2 h3 => h.2 a i h1 h2 (by omega)⟩
theorem qFt_P {b : Int} {m m1 : Int → Int → Int} (hP : qP m) (h : qFt b m m1) : qP m1 := qP_fr hP h.1 (by decide)
theorem r_parse (S : zS) (t : Int → Int) (n : Int) (e : Nat) (he : 2 ≤ e) (hn : 0 ≤ n ∧ n ≤ 60) (hr : ∀ i, 0 ≤ i → i < n → 0 ≤ t i ∧ t i < 65536) (hq : ∀ i, 0 ≤ i → i < n → t i ≠ 91 ∧ t i ≠ 35) : ∀ (f : Nat),
    (∀ (dep p q b : Int) (H W : List Int) (l x : qTree) (m : Int → Int → Int) (x2 x3 : zV), qPr (qsy t n) 0 f 0 dep p l q x → qTv (qW S m) t n → qP m → qTs m b H W → 0 ≤ p → p ≤ n → 0 ≤ b → b + qsz x ≤ 24 → (W.length : Int) ≤ p → (H.length : Int) ≤ p → qtop W 1 → qBp S t n e m p q b 1 H W x x2 x3) ∧
    (∀ (dep p q b : Int) (H W : List Int) (l x : qTree) (m : Int → Int → Int) (x2 x3 : zV) (fr : List (Nat × Int × qTree)) (h : Int) (xk : qTree) (bb : Int), qPr (qsy t n) 0 f 1 dep p l q x → qTv (qW S m) t n → qP m → qPe m t n W H fr h xk bb → l = qfl fr xk → qwf l → bb + fr.length = b + qsz l → (∀ w ∈ fr, 1 ≤ qbd (w.1 : Int)) → 0 ≤ p → p ≤ n → 0 ≤ b → b ≤ bb → b + qsz x ≤ 24 → (W.length : Int) + fr.length ≤ p → (H.length : Int) + fr.length + 1 ≤ p → qtop W 1 → qBp S t n e m p q b 1 H W x x2 x3) ∧
    (∀ (dep p q b : Int) (H W : List Int) (l x : qTree) (m : Int → Int → Int) (x2 x3 : zV), qPr (qsy t n) 0 f 2 dep p l q x → qTv (qW S m) t n → qP m → qTs m b H W → 0 ≤ p → p ≤ n → 0 ≤ b → b + qsz x ≤ 24 → (W.length : Int) ≤ p → (H.length : Int) ≤ p → qtop W 2 → qBp S t n e m p q b 2 H W x x2 x3) ∧
    (∀ (dep p q b : Int) (H W : List Int) (l x : qTree) (m : Int → Int → Int) (x2 x3 : zV) (fr : List (Nat × Int × qTree)) (h : Int) (xk : qTree) (bb : Int), qPr (qsy t n) 0 f 3 dep p l q x → qTv (qW S m) t n → qP m → qPe m t n W H fr h xk bb → l = qfl fr xk → qwf l → bb + fr.length = b + qsz l → (∀ w ∈ fr, 2 ≤ qbd (w.1 : Int)) → 0 ≤ p → p ≤ n → 0 ≤ b → b ≤ bb → b + qsz x ≤ 24 → (W.length : Int) + fr.length ≤ p → (H.length : Int) + fr.length + 1 ≤ p → qtop W 2 → qBp S t n e m p q b 2 H W x x2 x3) ∧
    (∀ (dep p q b : Int) (H W : List Int) (l x : qTree) (m : Int → Int → Int) (x2 x3 : zV), qPr (qsy t n) 0 f 4 dep p l q x → qTv (qW S m) t n → qP m → qTs m b H W → 0 ≤ p → p ≤ n → 0 ≤ b → b + qsz x ≤ 24 → (W.length : Int) ≤ p → (H.length : Int) ≤ p → qBp S t n e m p q b 3 H W x x2 x3) ∧
    (∀ (dep p q b : Int) (H W : List Int) (l x : qTree) (m : Int → Int → Int) (x2 x3 : zV), qPr (qsy t n) 0 f 5 dep p l q x → qTv (qW S m) t n → qP m → qTs m b H W → 0 ≤ p → p ≤ n → 0 ≤ b → b + qsz x ≤ 24 → (W.length : Int) ≤ p → (H.length : Int) ≤ p → qBa S t n e m p q b H W x x2 x3) := by
  -- an operator behind what waits
  have hop : ∀ (p b L c : Int) (H W : List Int) (l : qTree) (m : Int → Int → Int) (x2 x3 : zV) (fr : List (Nat × Int × qTree)) (h : Int) (xk : qTree) (bb : Int), qTv (qW S m) t n → qP m → qPe m t n W H fr h xk bb → l = qfl fr xk → qwf l → bb + fr.length = b + qsz l → (∀ w ∈ fr, L ≤ qbd (w.1 : Int)) → 0 ≤ p → p < n → 0 ≤ b → b ≤ bb → b + qsz l ≤ 24 → (W.length : Int) + fr.length ≤ p → (H.length : Int) + fr.length + 1 ≤ p → c = t p → qjn c → (qbd c = L ∧ L < 3 ∧ qtop W L ∨ qbd c = 3 ∧ fr = []) →
      ∃ m2 r, zF_240 e 17 [vr 37, vi p, x2, x3] [] (qW S m) = zF_240 e 17 [vr 37, vi (p + 1), vu, vu] [] (qW S m2) ∧ qTs m2 (b + qsz l) (H ++ [r]) (W ++ [c]) ∧ (0 ≤ r ∧ r < b + qsz l) ∧ qrr m2 t n l r ∧ qFt b m m2 := by
    intro p b L c H W l m x2 x3 fr h xk bb hv hP hp hl hwl hbb hL hp0 hpn hb0 hb1 hb hWl hHl hc hj hcond
    have hK : qK S := hv.1
    have e1 := r_atOp e S t n p m x2 x3 he hn.2 hr hv ⟨hp0, hpn⟩ (Or.inl (by rw [← hc]; exact hj))
    rw [← hc] at e1
    have hcr : 0 ≤ c ∧ c < 65536 := by omega
    obtain ⟨m1, r, e2, q1, f1⟩ := r_flush e S t n p c (qbd c) W H he hK (by omega) rfl (by
      rcases hcond with ⟨h1, h2, h3⟩ | ⟨h1, h2⟩
      · rcases h3 with h3 | ⟨K, a, h4, h5⟩
        · exact Or.inl h3
        · exact Or.inr ⟨K, a, h4, by omega, by omega⟩
      · rcases qlast W with h3 | ⟨K, a, h3⟩
        · exact Or.inl h3
        · have := qbd_r a
          exact Or.inr ⟨K, a, h3, by omega, by omega⟩) fr.length fr h xk bb m rfl hP hp (by omega) (by omega) (by omega) (fun w hw => by
      rcases hcond with ⟨h1, h2, h3⟩ | ⟨h1, h2⟩
      · have := hL w hw
        omega
      · rw [h2] at hw
        simp at hw)
    rw [← hl, hbb] at q1
    obtain ⟨m2, e3, s2, f2⟩ := r_push e S p c (b + qsz l) (H ++ [r]) W m1 (vi (qbd c)) hK (qFt_P hP f1) (qPe_0 q1) (by omega) hcr (by omega)
    exact ⟨m2, r, by rw [e1, e2, e3], s2, q1.2.1, qrr_f f2.2 _ hwl _ q1.2.1.2 q1.2.2.1, qFt_t (qFt_w f1 hb1) f2 (by omega)⟩
  intro f
  induction f with
  | zero => exact ⟨fun _ _ _ _ _ _ _ _ _ _ _ h => absurd h id, fun _ _ _ _ _ _ _ _ _ _ _ _ _ _ _ h => absurd h id, fun _ _ _ _ _ _ _ _ _ _ _ h => absurd h id, fun _ _ _ _ _ _ _ _ _ _ _ _ _ _ _ h => absurd h id, fun _ _ _ _ _ _ _ _ _ _ _ h => absurd h id, fun _ _ _ _ _ _ _ _ _ _ _ h => absurd h id⟩
  | succ f ih =>
    obtain ⟨I0, I1, I2, I3, I4, I5⟩ := ih
    refine ⟨?_, ?_, ?_, ?_, ?_, ?_⟩
    · -- a sum
      intro dep p q b H W l x m x2 x3 h hv hP hs hp hpn hb hx hW hH ht
      obtain ⟨h40, q1, x1, h2, h3⟩ := h
      obtain ⟨a1, -, a3, -, a5⟩ := qPr_i t n 0 _ _ _ _ _ _ _ h2 hp hpn
      obtain ⟨c1, -, -, c4, -⟩ := qPr_i t n 0 _ _ _ _ _ _ _ h3 (by omega) (by omega)
      have a3 := a3 (by decide)
      have c4 := c4 (by decide)
      obtain ⟨m1, y2, y3, fr, h, xk, bb, e1, p1, p2, p3, p4, p5, p6, p7, p8⟩ := I2 dep p q1 b H W qNl x1 m x2 x3 h2 hv hP hs hp hpn hb (by omega) hW hH (by
        rcases ht with ht | ⟨K, a, ht, ht2⟩
        · exact Or.inl ht
        · exact Or.inr ⟨K, a, ht, by omega⟩)
      obtain ⟨m2, z2, z3, fr2, h', xk2, bb2, e2, s1, s2, s3, s4, s5, s6, s7, s8⟩ := I1 dep q1 q b H W x1 x m1 y2 y3 fr h xk bb h3 (qTv_f hv p6) (qFt_P hP p6) p1 p2 a3 p3 (fun w hw => by have := p5 w hw; omega) (by omega) (by omega) hb p4 hx p7 p8 ht
      exact ⟨m2, z2, z3, fr2, h', xk2, bb2, by rw [e1, e2], s1, s2, s3, s4, s5, qFt_t p6 s6 (Int.le_refl _), s7, s8⟩
    · -- a sum goes on
      intro dep p q b H W l x m x2 x3 fr h xk bb hx' hv hP hp hl hwl hbb hL hp0 hpn hb0 hb1 hb hWl hHl ht
      rcases hx' with ⟨g1, rfl, rfl⟩ | ⟨g1, q1, x1, h2, h3⟩
      · exact ⟨m, x2, x3, fr, h, xk, bb, rfl, hp, hl, hbb, hb1, hL, qFt_r _ _, hWl, hHl⟩
      · have hy := qsy_l (s := t) (n := n) (p := p) (by omega)
        have eyp : qsy t n p = t p := qsy_i hy
        obtain ⟨a1, -, a3, -, a5⟩ := qPr_i t n 0 _ _ _ _ _ _ _ h2 (by omega) (by omega)
        obtain ⟨c1, c2, -, c4, -⟩ := qPr_i t n 0 _ _ _ _ _ _ _ h3 (by omega) (by omega)
        have a3 := a3 (by decide)
        have c4 := c4 (by decide)
        rw [qsz_o] at c4
        have hj : qjn (qsy t n p) := by omega
        have hb1' : qbd (qsy t n p) = 1 := by
          unfold qbd
          rw [if_pos g1]
        obtain ⟨m2, r, e1, s1, s2, s3, s4⟩ := hop p b 1 (qsy t n p) H W l m x2 x3 fr h xk bb hv hP hp hl hwl hbb hL hp0 hy.2 hb0 hb1 (by omega) hWl hHl eyp hj (Or.inl ⟨hb1', by decide, ht⟩)
        have hv2 := qTv_f hv s4
        obtain ⟨m3, y2, y3, fr3, h3', xk3, bb3, e2, u1, u2, u3, u4, u5, u6, u7, u8⟩ := I2 dep (p + 1) q1 (b + qsz l) (H ++ [r]) (W ++ [qsy t n p]) qNl x1 m2 vu vu h2 hv2 (qFt_P hP s4) s1 (by omega) (by omega) (by omega) (by omega) (by rw [List.length_append]; show ((W.length + 1 : Nat) : Int) ≤ _; omega) (by rw [List.length_append]; show ((H.length + 1 : Nat) : Int) ≤ _; omega) (qtop_s _ _ _ (by omega))
        rw [List.length_append] at u7 u8
        have u7' : (W.length : Int) + 1 + fr3.length ≤ q1 := by have : ([qsy t n p] : List Int).length = 1 := rfl; omega
        have u8' : (H.length : Int) + 1 + fr3.length + 1 ≤ q1 := by have : ([r] : List Int).length = 1 := rfl; omega
        have hcn : qsy t n p = ((qsy t n p).toNat : Int) := by omega
        have hp3 := qPe_c (w := (qsy t n p).toNat) u1 hcn (by rw [← hcn]; exact hj) ⟨s2.1, by omega⟩ (qrr_f u6.2 _ hwl _ s2.2 s3) hwl
        obtain ⟨m4, z2, z3, fr4, h4', xk4, bb4, e3, v1, v2, v3, v4, v5, v6, v7, v8⟩ := I1 dep q1 q b H W (qOp (qsy t n p).toNat l x1) x m3 y2 y3 (((qsy t n p).toNat, r, l) :: fr3) h3' xk3 bb3 h3 (qTv_f hv2 u6) (qFt_P (qFt_P hP s4) u6) hp3 (by rw [u2]; rfl) (by rw [qwf_o, ← hcn]; exact ⟨hj, hwl, a3⟩) (by rw [List.length_cons, qsz_o]; omega) (fun w hw => by
          rcases List.mem_cons.mp hw with rfl | hw
          · show 1 ≤ qbd ((qsy t n p).toNat : Int)
            rw [← hcn, hb1']
            decide
          · have := u5 w hw
            omega) (by omega) (by omega) hb0 (by omega) hb (by rw [List.length_cons]; omega) (by rw [List.length_cons]; omega) ht
        exact ⟨m4, z2, z3, fr4, h4', xk4, bb4, by rw [e1, e2, e3], v1, v2, v3, v4, v5, qFt_t s4 (qFt_t (qFt_w u6 (by omega)) v6 (Int.le_refl _)) (Int.le_refl _), v7, v8⟩
    · -- a product
      intro dep p q b H W l x m x2 x3 h hv hP hs hp hpn hb hx hW hH ht
      obtain ⟨q1, x1, h2, h3⟩ := h
      obtain ⟨a1, -, a3, -, a5⟩ := qPr_i t n 0 _ _ _ _ _ _ _ h2 hp hpn
      obtain ⟨c1, -, -, c4, -⟩ := qPr_i t n 0 _ _ _ _ _ _ _ h3 (by omega) (by omega)
      have a3 := a3 (by decide)
      have c4 := c4 (by decide)
      obtain ⟨m1, y2, y3, fr, h, xk, bb, e1, p1, p2, p3, p4, p5, p6, p7, p8⟩ := I4 dep p q1 b H W qNl x1 m x2 x3 h2 hv hP hs hp hpn hb (by omega) hW hH
      obtain ⟨m2, z2, z3, fr2, h', xk2, bb2, e2, s1, s2, s3, s4, s5, s6, s7, s8⟩ := I3 dep q1 q b H W x1 x m1 y2 y3 fr h xk bb h3 (qTv_f hv p6) (qFt_P hP p6) p1 p2 a3 p3 (fun w hw => by have := p5 w hw; omega) (by omega) (by omega) hb p4 hx p7 p8 ht
      exact ⟨m2, z2, z3, fr2, h', xk2, bb2, by rw [e1, e2], s1, s2, s3, s4, s5, qFt_t p6 s6 (Int.le_refl _), s7, s8⟩
    · -- a product goes on
      intro dep p q b H W l x m x2 x3 fr h xk bb hx' hv hP hp hl hwl hbb hL hp0 hpn hb0 hb1 hb hWl hHl ht
      rcases hx' with ⟨g1, rfl, rfl⟩ | ⟨g1, q1, x1, h2, h3⟩
      · exact ⟨m, x2, x3, fr, h, xk, bb, rfl, hp, hl, hbb, hb1, hL, qFt_r _ _, hWl, hHl⟩
      · have hy := qsy_l (s := t) (n := n) (p := p) (by omega)
        have eyp : qsy t n p = t p := qsy_i hy
        obtain ⟨a1, -, a3, -, a5⟩ := qPr_i t n 0 _ _ _ _ _ _ _ h2 (by omega) (by omega)
        obtain ⟨c1, c2, -, c4, -⟩ := qPr_i t n 0 _ _ _ _ _ _ _ h3 (by omega) (by omega)
        have a3 := a3 (by decide)
        have c4 := c4 (by decide)
        rw [qsz_o] at c4
        have hj : qjn (qsy t n p) := by omega
        have hb1' : qbd (qsy t n p) = 2 := by
          unfold qbd
          rw [if_neg (by omega), if_pos (by omega)]
        obtain ⟨m2, r, e1, s1, s2, s3, s4⟩ := hop p b 2 (qsy t n p) H W l m x2 x3 fr h xk bb hv hP hp hl hwl hbb hL hp0 hy.2 hb0 hb1 (by omega) hWl hHl eyp hj (Or.inl ⟨hb1', by decide, ht⟩)
        have hv2 := qTv_f hv s4
        obtain ⟨m3, y2, y3, fr3, h3', xk3, bb3, e2, u1, u2, u3, u4, u5, u6, u7, u8⟩ := I4 dep (p + 1) q1 (b + qsz l) (H ++ [r]) (W ++ [qsy t n p]) qNl x1 m2 vu vu h2 hv2 (qFt_P hP s4) s1 (by omega) (by omega) (by omega) (by omega) (by rw [List.length_append]; show ((W.length + 1 : Nat) : Int) ≤ _; omega) (by rw [List.length_append]; show ((H.length + 1 : Nat) : Int) ≤ _; omega)
        rw [List.length_append] at u7 u8
        have u7' : (W.length : Int) + 1 + fr3.length ≤ q1 := by have : ([qsy t n p] : List Int).length = 1 := rfl; omega
        have u8' : (H.length : Int) + 1 + fr3.length + 1 ≤ q1 := by have : ([r] : List Int).length = 1 := rfl; omega
        have hcn : qsy t n p = ((qsy t n p).toNat : Int) := by omega
        have hp3 := qPe_c (w := (qsy t n p).toNat) u1 hcn (by rw [← hcn]; exact hj) ⟨s2.1, by omega⟩ (qrr_f u6.2 _ hwl _ s2.2 s3) hwl
        obtain ⟨m4, z2, z3, fr4, h4', xk4, bb4, e3, v1, v2, v3, v4, v5, v6, v7, v8⟩ := I3 dep q1 q b H W (qOp (qsy t n p).toNat l x1) x m3 y2 y3 (((qsy t n p).toNat, r, l) :: fr3) h3' xk3 bb3 h3 (qTv_f hv2 u6) (qFt_P (qFt_P hP s4) u6) hp3 (by rw [u2]; rfl) (by rw [qwf_o, ← hcn]; exact ⟨hj, hwl, a3⟩) (by rw [List.length_cons, qsz_o]; omega) (fun w hw => by
          rcases List.mem_cons.mp hw with rfl | hw
          · show 2 ≤ qbd ((qsy t n p).toNat : Int)
            rw [← hcn, hb1']
            decide
          · have := u5 w hw
            omega) (by omega) (by omega) hb0 (by omega) hb (by rw [List.length_cons]; omega) (by rw [List.length_cons]; omega) ht
        exact ⟨m4, z2, z3, fr4, h4', xk4, bb4, by rw [e1, e2, e3], v1, v2, v3, v4, v5, qFt_t s4 (qFt_t (qFt_w u6 (by omega)) v6 (Int.le_refl _)) (Int.le_refl _), v7, v8⟩
    · -- a power
      intro dep p q b H W l x m x2 x3 h hv hP hs hp hpn hb hx hW hH
      obtain ⟨h40, q1, x1, h2, h⟩ := h
      obtain ⟨a1, -, a3, -, a5⟩ := qPr_i t n 0 _ _ _ _ _ _ _ h2 hp hpn
      have a3 := a3 (by decide)
      rw [if_neg (by decide)] at a5
      have hpq : p < q1 := by
        by_cases c : p < q1
        · exact c
        · -- an atom takes a sign
          rcases h2' : f with _ | f'
          · rw [h2'] at h2; exact absurd h2 id
          · rw [h2'] at h2
            rcases h2 with ⟨-, h2, -⟩ | ⟨hy0, q2, h2, -, h3⟩ | ⟨hy0, q2, y1, q3, y2, h2, h4, h3, -, h5, -⟩ | ⟨-, k, hk, -, -, -, h5, -⟩
            · omega
            · have hy := qsy_l (s := t) (n := n) (p := p) (by omega)
              have := (qPr_i t n 0 _ _ _ _ _ _ _ h2 (by omega) (by omega)).1
              omega
            · have hy := qsy_l (s := t) (n := n) (p := p) (by omega)
              have h6 := (qPr_i t n 0 _ _ _ _ _ _ _ h2 (by omega) (by omega)).1
              have hy := qsy_l (s := t) (n := n) (p := q2) (by omega)
              have := (qPr_i t n 0 _ _ _ _ _ _ _ h3 (by omega) (by omega)).1
              omega
            · split at h5 <;> omega
      rcases h with ⟨-, g2, xx, h4, rfl⟩ | ⟨g1, -⟩ | ⟨g1, g2, rfl, rfl⟩
      · have hy := qsy_l (s := t) (n := n) (p := q1) (by omega)
        have eyp : qsy t n q1 = t q1 := qsy_i hy
        obtain ⟨a1', -, a3', -, a5'⟩ := qPr_i t n 0 _ _ _ _ _ _ _ h4 (by omega) (by omega)
        rw [qsz_o] at hx
        obtain ⟨m1, y2, y3, r, e1, s1, s2, s3, s4⟩ := I5 dep p q1 b H W qNl x1 m x2 x3 h2 hv hP hs hp hpn hb (by omega) hW hH
        have hv1 := qTv_f hv s4
        obtain ⟨m2, r', e2, u1, u2, u3, u4⟩ := hop q1 b 3 94 H W x1 m1 y2 y3 [] r x1 (b + qsz x1) hv1 (qFt_P hP s4) (qPe_n s1 s2 s3 a3) rfl a3 (by simp) (fun w hw => by simp at hw) (by omega) hy.2 hb (by omega) (by omega) (by simp; omega) (by simp; omega) (by rw [← eyp]; exact g2.symm) (by decide) (Or.inr ⟨by decide, rfl⟩)
        have hv2 := qTv_f hv1 u4
        obtain ⟨m3, w2, w3, fr3, h3', xk3, bb3, e3, v1, v2, v3, v4, v5, v6, v7, v8⟩ := I4 (dep + 1) (q1 + 1) q (b + qsz x1) (H ++ [r']) (W ++ [94]) qNl xx m2 vu vu h4 hv2 (qFt_P (qFt_P hP s4) u4) u1 (by omega) (by omega) (by omega) (by omega) (by rw [List.length_append]; show ((W.length + 1 : Nat) : Int) ≤ _; omega) (by rw [List.length_append]; show ((H.length + 1 : Nat) : Int) ≤ _; omega)
        rw [List.length_append] at v7 v8
        have v7' : (W.length : Int) + 1 + fr3.length ≤ q := by have : ([94] : List Int).length = 1 := rfl; omega
        have v8' : (H.length : Int) + 1 + fr3.length + 1 ≤ q := by have : ([r'] : List Int).length = 1 := rfl; omega
        have hp3 := qPe_c (w := 94) v1 rfl (by decide) ⟨u2.1, by omega⟩ (qrr_f v6.2 _ a3 _ u2.2 u3) a3
        refine ⟨m3, w2, w3, (94, r', x1) :: fr3, h3', xk3, bb3, by rw [e1, e2, e3], hp3, by rw [v2]; rfl, by rw [List.length_cons, qsz_o]; omega, by omega, fun w hw => ?_, qFt_t s4 (qFt_t u4 v6 (by omega)) (Int.le_refl _), by rw [List.length_cons]; omega, by rw [List.length_cons]; omega⟩
        rcases List.mem_cons.mp hw with rfl | hw
        · show (3 : Int) ≤ qbd ((94 : Nat) : Int)
          decide
        · exact v5 w hw
      · exact absurd rfl g1
      · obtain ⟨m1, y2, y3, r, e1, s1, s2, s3, s4⟩ := I5 dep p q b H W qNl x m x2 x3 h2 hv hP hs hp hpn hb (by omega) hW hH
        exact ⟨m1, y2, y3, [], r, x, b + qsz x, e1, qPe_n s1 s2 s3 a3, rfl, by simp, by omega, fun w hw => by simp at hw, s4, by simp; omega, by simp; omega⟩
    · -- an atom
      intro dep p q b H W l x m x2 x3 h hv hP hs hp hpn hb hx hW hH
      have hK : qK S := hv.1
      rcases h with ⟨h1, rfl, rfl⟩ | ⟨h1, q1, h2, h3, rfl⟩ | ⟨h1, -⟩ | ⟨h1, k, h2, h3, h4, h5, h6, rfl⟩
      · have hy := qsy_l (s := t) (n := n) (p := p) (by omega)
        have eyp : qsy t n p = t p := qsy_i hy
        rw [eyp] at h1
        rw [qsz_a] at hx
        obtain ⟨m1, e1, s1, s2, s3⟩ := r_atLetter e S t n p b H W m x2 x3 he hn.2 hr hv hP hy h1 hs (by omega) (by omega)
        refine ⟨m1, vu, vu, b, e1, by rw [qsz_a]; exact s1, by rw [qsz_a]; omega, by rw [eyp]; exact s2, s3⟩
      · have hy := qsy_l (s := t) (n := n) (p := p) (by omega)
        have eyp : qsy t n p = t p := qsy_i hy
        have hy1 := qsy_l (s := t) (n := n) (p := q1) (by omega)
        have eyq : qsy t n q1 = t q1 := qsy_i hy1
        obtain ⟨a1, -, a3, -, a5⟩ := qPr_i t n 0 _ _ _ _ _ _ _ h2 (by omega) (by omega)
        have a3 := a3 (by decide)
        have e1 := r_atOp e S t n p m x2 x3 he hn.2 hr hv hy (Or.inr (by rw [← eyp]; exact h1))
        rw [← eyp, h1] at e1
        have e1' : zF_240 e 135 [vr 37, vi p, vi 40, vi (qbd 40)] [] (qW S m) = zF_240 e 196 [vr 37, vi p, vi 40, vi (qbd 40)] [] (qW S m) := by
          rw [b240_135]
          simp (config := { maxSteps := 2000000 }) (disch := first | omega | (simp only [qb_in, qkW, qmW, qnW, true_and, and_true, or_self, true_or, or_true, and_self]; done) | (simp only [qb_in, qkW, qmW, qnW, true_and, and_true, or_self, true_or, or_true, and_self]; omega)) only [b240_0, b240_16, b240_25, b240_30, b240_35, b240_38, b240_45, b240_48, b240_51, b240_57, b240_67, b240_70, b240_74, b240_77, b240_85, b240_88, b240_110, b240_114, b240_117, b240_130, b240_134, b240_141, b240_148, b240_162, b240_166, b240_180, b240_184, b240_189, b240_193, b240_212, b240_216, b240_219, b240_229, b240_233, b240_236, qcall_l, qcall_r, qretn_l, qJ_s, qJ_n, qV0, qEx, ↓qif0, ↓zchk_pos, ↓reduceIte, qput, qWW, qmW, qkW, qnW, Int.reduceEq]
        obtain ⟨m1, e2, s1, f1⟩ := r_push e S p 40 b H W m (vi (qbd 40)) hK hP hs (by omega) (by decide) (by omega)
        have hv1 := qTv_f hv f1
        obtain ⟨m2, y2, y3, fr, h, xk, bb, e3, p1, p2, p3, p4, p5, p6, p7, p8⟩ := I0 (dep + 1) (p + 1) q1 b H (W ++ [40]) qNl x m1 vu vu h2 hv1 (qFt_P hP f1) s1 (by omega) (by omega) hb hx (by rw [List.length_append]; show ((W.length + 1 : Nat) : Int) ≤ _; omega) (by omega) (qtop_s _ _ _ (by decide))
        have hv2 := qTv_f hv1 p6
        have hP2 := qFt_P (qFt_P hP f1) p6
        rw [List.length_append] at p7
        have p7' : (W.length : Int) + 1 + fr.length ≤ q1 := by have : ([40] : List Int).length = 1 := rfl; omega
        have e4 := r_atClose e S t n q1 m2 y2 y3 he hn.2 hr hv2 hy1 (by rw [← eyq]; exact h3)
        obtain ⟨m3, r, e5, u1, u2⟩ := r_flushB e S t n q1 W H he hK fr.length fr h xk bb m2 (vi 41) vu rfl hP2 p1 (by omega) (by omega) (by omega)
        rw [← p2, p3] at u1
        obtain ⟨m4, e6, w1, w2⟩ := r_closed e S q1 (b + qsz x) (H ++ [r]) W m3 hK (qPe_0 u1) (by omega) (by omega)
        exact ⟨m4, vu, vu, r, by rw [e1, e1', e2, e3, e4, e5, e6], w1, u1.2.1, qrr_f w2.2 _ a3 _ u1.2.1.2 u1.2.2.1, qFt_t f1 (qFt_t p6 (qFt_t (qFt_w u2 p4) w2 (by omega)) (Int.le_refl _)) (Int.le_refl _)⟩
      · have hy := qsy_l (s := t) (n := n) (p := p) (by omega)
        rw [qsy_i hy] at h1
        exact absurd h1 (hq p hy.1 hy.2).1
      · have c : ¬ qsy t n p = 35 := fun z => by
          have hy := qsy_l (s := t) (n := n) (p := p) (by omega)
          rw [qsy_i hy] at z
          exact (hq p hy.1 hy.2).2 z
        rw [if_neg c] at h4 h5 h6 ⊢
        have hkl := h4 (k - 1) (by omega) (by omega)
        have hy := qsy_l (s := t) (n := n) (p := p + (k - 1)) (by omega)
        rw [qsz_a] at hx
        obtain ⟨m1, e1, s1, s2, s3⟩ := r_atNumber e S t n p b H W m x2 x3 k he hn.2 hr hv hP (by omega) ⟨h2, h3⟩ h4 h5 hs (by omega) (by omega)
        rw [h6]
        exact ⟨m1, vu, vu, b, e1, by rw [qsz_a]; exact s1, by rw [qsz_a]; omega, s2, s3⟩
