/-! Questions for a word of a book, for a book. -/
theorem qUn_ck {S : zS} {R : zR} {F : zS → zR} {ps : Nat → Int} {Q : zS → Prop} (hH : qHC S) (v : Int) (hR : R = some (.inl (some (vi v)), S)) (hF : ∀ m1, (∀ z, z ≠ 102 → m1 z = zm S z) → qHB1 (qW S m1) → ∃ m3, F (qW S m1) = some (.inl (some (vi v)), qW S m3) ∧ qF0 m1 m3 ∧ m3 37 0 = 0 ∧ qHB1 (qW S m3)) (hQ : ∀ m2, qFx S m2 → qHC (qW S m2) → Q (qW S m2)) : qUn vi qid Q S R F ps := qUn_bk hH.1 v hR hF fun m2 f H => hQ m2 f.1 (qHC_z hH f H)
theorem qUn_cx {S : zS} {R : zR} {F : zS → zR} {ps : Nat → Int} {Q : zS → Prop} (hH : qHC S) (x : Nat) (hR : R = some (.inr x, zbump S)) (hx : ps x ≠ 0) (hF : ∃ m3, F (zbump S) = some (.inl (some (vi 0)), zbump (qW S m3)) ∧ qF0 (zm S) m3 ∧ m3 37 0 = ps x ∧ qHB1 (qW S m3)) (hQ : ∀ m2, qFx S m2 → qHC (qW S m2) → Q (zbump (qW S m2))) : qUn vi qid Q S R F ps := qUn_bx hH.1 x hR hx hF fun m2 f H => hQ m2 f.1 (qHC_z hH f H)
theorem qUn_cn {S : zS} {R : zR} {F : zS → zR} {ps : Nat → Int} {w : Int → Int} {Q : zS → Prop} (hH : qHC S) (h : qNo ps S R F) (hQ : ∀ m2, qFx S m2 → qHC (qW S m2) → Q (zbump (qW S m2))) : qUn vi w Q S R F ps := qUn_no h fun p => hQ _ (qFx_q (qFq_0 S p)) (qHC_f hH (qFq_0 S p))
/-- refused by the reference, nothing laid -/
theorem qNo_r {S : zS} (v : Int) : qF0 (zm S) (qu (zm S) 37 0 v) := qF0_u _ v
theorem q_wordq (d : Nat) (S : zS) (b j a : Int) (Q : zS → Prop) (h : 15 ≤ d) (hH : qHC S) (hQ : ∀ m2, qFx S m2 → qHC (qW S m2) → Q (qW S m2)) (hQx : ∀ m2, qFx S m2 → qHC (qW S m2) → Q (zbump (qW S m2))) :
    qUn vi qid Q S (zD d 133 [vr 3, vi b, vi j, vi a] S) (zD d 268 [vr 37, vi b, vi j, vi a]) qpsD := by
  obtain ⟨⟨⟨⟨hK, hP, hL, hn⟩, ⟨hT, hC, hR, hk⟩, hPo, hY⟩, hBB⟩, hYC, hFc⟩ := id hH
  by_cases c1 : 0 ≤ b ∧ b < zm S 37 16
  · obtain ⟨e, rfl, he⟩ := qd h
    obtain ⟨⟨a1, a2, a3, a4, a5⟩, -, -, ⟨x3, wr⟩, ⟨x4, tr⟩, -, x6, ⟨x7, n0, n80⟩, x8, -⟩ := hY.2.1 b c1.1 c1.2
    have bo := s_bookOf_y e S b (by omega) hK hP hY.1 c1
    have hKb : qK (zbump S) := hK
    have hbn : b < 4 := by have := hY.1.2; omega
    have p22 := P_37_22 hP
    have ibb := r_isbook_y e (zbump S) b (by omega) hKb hY.1.2 c1
    have z1 : z32 (zm S 54 b - 1) = zm S 54 b - 1 := q32 (by omega)
    have i1b := r_in e j 0 (zm S 54 b - 1) (zbump S) (by omega)
    by_cases c2 : 0 ≤ j ∧ j < zm S 54 b
    · rw [qb_p (show 0 ≤ j ∧ j ≤ zm S 54 b - 1 by omega)] at i1b
      obtain ⟨J, fL, fE, fA, fU, fM, P, ll, w0, -⟩ := hBB b c1.1 c1.2
      obtain ⟨w1, -⟩ := w0.2.1 j.toNat (by have := w0.1.1; omega)
      rw [show ((j.toNat : Nat) : Int) = j by omega] at w1
      obtain ⟨⟨⟨ky, -, -, ky3, -, -⟩, ⟨y0, -, y1, -, -⟩, y103, yn⟩, -⟩ := qWw_b w1
      clear w0 w1
      obtain ⟨y, hy⟩ : ∃ y, zm S (zm S 8 b + 1) j = y := ⟨_, rfl⟩
      rw [hy] at ky ky3 y0 y1 y103 yn
      by_cases c3 : 0 ≤ a ∧ a ≤ 7
      · -- the reference, up to its answer
        have ref : ∀ (m1 : Int → Int → Int), (∀ z, z ≠ 102 → m1 z = zm S z) → qHB1 (qW S m1) → ∃ m3, qF0 m1 m3 ∧ m3 37 0 = 0 ∧ qHB1 (qW S m3) ∧ zD (e + 1) 268 [vr 37, vi b, vi j, vi a] (qW S m1) = zF_268 e 69 [vr 37, vi b, vi j, vi a, vu, vu] [] (qW S m3) ∧ m3 52 b = zm S 52 b ∧ (m3 73 j = (zm S y 2) * (zm S 52 b - 1) + (zm S y 3 - 1) ∧ 0 ≤ zm S y 2 ∧ zm S y 2 < 1000 ∧ 0 ≤ zm S y 3 - 1 ∧ zm S y 3 - 1 < zm S 52 b - 1) ∧ m3 74 j = zm S y 4 ∧ m3 75 j = zm S y 5 ∧ m3 76 j = zm S (y + 3) 1 ∧ m3 78 j = zm S (y + 3) 3 ∧ m3 79 j = zm S (y + 3) 2 ∧ m3 80 j = zm S y 6 := by
          intro m1 k1 H1
          have k37 : m1 37 = zm S 37 := k1 37 (by decide)
          have hb1 : 0 ≤ b ∧ b < m1 37 16 := by rw [k37]; exact c1
          have ib := r_isbook_y e (qW S m1) b (by omega) hK H1.1.2.2.1.2 hb1
          have e54 : m1 54 = zm S 54 := k1 54 (by decide)
          have q22 : m1 37 22 = 54 := by rw [k37, p22]
          have i1 := r_in e j 0 (zm S 54 b - 1) (qW S m1) (by omega)
          rw [qb_p (show 0 ≤ j ∧ j ≤ zm S 54 b - 1 by omega)] at i1
          have i2 := r_in e a 0 7 (qW S m1) (by omega)
          rw [qb_p c3] at i2
          have hd := r_hold0 e S m1 (by omega) hK
          have H2 := qHB_0 H1 0
          obtain ⟨m2, hm2⟩ : ∃ m2, qu m1 37 0 0 = m2 := ⟨_, rfl⟩
          have H2 : qHB1 (qW S (qu m1 37 0 0)) := H2
          rw [hm2] at hd H2
          have f2 : qF0 m1 m2 := by rw [← hm2]; exact qF0_u m1 0
          have n16 : m2 37 16 = zm S 37 16 := by rw [← hm2, qu_i _ _ _ _ _ (by decide), k37]
          obtain ⟨m3, r3, f3, l3, H3⟩ := q_lays e (qW S m2) b (by omega) H2.1 H2.2 (by show 0 ≤ b ∧ b < m2 37 16; rw [n16]; exact c1)
          have f13 : qF0 m1 m3 := qF0_t f2 (qF0_l f3)
          have h30 : m3 37 0 = 0 := by
            rw [show m3 37 0 = m2 37 0 from f3 37 0 (by unfold qfly; omega), ← hm2, qu_s]
          obtain ⟨g1, g2, -, g4⟩ := qF0_b k1 f13
          have m16 : m3 37 16 = zm S 37 16 := g4 16 (by unfold qfly; omega)
          have H3' : qHB1 (qW S m3) := ⟨qH1_x (S := qW S m2) H2.1 (qFly_x (S := qW S m2) f3), fun b' b1 b2 => H3 b' b1 (by show b' < m2 37 16; rw [n16]; have b2 : b' < m3 37 16 := b2; rw [m16] at b2; exact b2)⟩
          obtain ⟨J', gL, gE, gA, gU, gM, P', ll', v0, v1⟩ := qBB_l (H3'.2 b c1.1 (by show b < m3 37 16; rw [m16]; exact c1.2)) l3
          have q8 : zm (qW S m3) 8 = zm S 8 := g1 8 (by decide) (by decide)
          have q51 : zm (qW S m3) 51 = zm S 51 := g1 51 (by decide) (by decide)
          have q52 : zm (qW S m3) 52 = zm S 52 := g1 52 (by decide) (by decide)
          have q54 : zm (qW S m3) 54 = zm S 54 := g1 54 (by decide) (by decide)
          have qx1 : zm (qW S m3) (zm S 8 b + 1) = zm S (zm S 8 b + 1) := g2 _ (by omega) (by omega)
          have qy : zm (qW S m3) y = zm S y := g2 _ (by omega) (by omega)
          have qy3 : zm (qW S m3) (y + 3) = zm S (y + 3) := g2 _ (by omega) (by omega)
          rw [q8] at v0
          rw [q51, q52] at v0 v1
          have hJ := v0.1.1
          rw [q54] at hJ
          have J80 := v0.1.2.1
          obtain ⟨u1, u2⟩ := v0.2.1 j.toNat (by omega)
          have u3 := v1.2.1 j.toNat (by omega)
          have zkj := (qZn_f (t := zm S 52 b) wr.1 (qB_J v0) v0.1.2.2 j.toNat (by omega)).1
          rw [show ((j.toNat : Nat) : Int) = j by omega] at u1 u2 u3 zkj
          rw [qx1, hy] at u1 u2
          have u4 := (qWw_b u1).2
          obtain ⟨pp, l, ⟨t1, t2, t3, t4⟩, t5, t6, t7, t8, t9⟩ := u2
          obtain ⟨s1, s2, s3, s4, s5, s6, s7, s8⟩ := u3
          obtain ⟨-, -, o1, o2, o3, -⟩ := u4
          rw [qy] at t5 t6 t7 t8 t9
          rw [qy3] at o1 o2 o3
          have pb : pp < 1000 := by
            have zf := (qZ0_f (t := zm S 52 b) zkj wr.1 (qB_J v0 j.toNat (by omega)) (qZn_0 (t := zm S 52 b) wr.1 (qB_J v0) v0.1.2.2 j.toNat (by omega))).1.1.2
            have zf : (qZp (zm S 51 b) (zm S 52 b) gL gE gA j.toNat).1.1 ≤ if qlp (gL j.toNat) (gE j.toNat) (qZp (zm S 51 b) (zm S 52 b) gL gE gA j.toNat).2 < (gL j.toNat).length then 3 * j else 3 * j + 3 := zf
            have m1 : (pp - 1) * 1 ≤ (pp - 1) * (zm S 52 b - 1) := Int.mul_le_mul_of_nonneg_left (by omega) (by omega)
            split at zf <;> omega
          refine ⟨m3, f13, h30, H3', ?_, congrFun q52 b, ⟨by rw [t5, t6]; exact s1.trans (by omega), by omega, by omega, by omega, by omega⟩, by rw [t7]; exact s2, by rw [t8]; exact s3, by rw [o1]; exact s4, by rw [o3]; exact s6, by rw [o2]; exact s7, by rw [t9]; exact s8⟩
          simp (config := { maxSteps := 2000000 }) (disch := first | omega | (simp only [K_37 hK, K_54 hK, q22, qb_in, qkW, qmW, qnW, true_and, and_true, or_self, true_or, or_true, and_self]; done) | (simp only [K_37 hK, K_54 hK, q22, qb_in, qkW, qmW, qnW, true_and, and_true, or_self, true_or, or_true, and_self]; omega)) only [zD_268, b268_0, b268_5, b268_8, b268_21, b268_24, b268_28, b268_29, b268_37, b268_41, b268_48, b268_51, b268_55, b268_56, b268_59, b268_62, b268_64, b268_84, b268_88, b268_97, b268_102, b268_111, b268_115, b268_119, b268_124, b268_136, b268_147, b268_148, b268_153, b268_162, b268_167, b268_176, b268_182, b268_191, b268_197, qcall_l, qcall_r, qretn_l, qJ_s, qJ_n, qV0, qEx, ↓qif0, ↓zchk_pos, ↓reduceIte, qput, qWW, qmW, qkW, qnW, K_37 hK, K_54 hK, ib, q22, e54, z1, i1, i2, hd, r3, Int.reduceEq]
        have hcase : a = 0 ∨ a = 1 ∨ a = 2 ∨ a = 3 ∨ a = 4 ∨ a = 5 ∨ a = 6 ∨ a = 7 := by omega
        have mk01 : zm S (y + 3) 2 = 0 ∨ zm S (y + 3) 2 = 1 := by
          obtain ⟨J, fL, fE, fA, fU, fM, P, ll, w0, -⟩ := hBB b c1.1 c1.2
          obtain ⟨w1, -⟩ := w0.2.1 j.toNat (by have := w0.1.1; omega)
          rw [show ((j.toNat : Nat) : Int) = j by omega, hy] at w1
          obtain ⟨-, -, -, o2, -⟩ := (qWw_b w1).2
          obtain ⟨W, dg, st, bg, mk, c, N, g, T, p, ⟨-, -, -, -, -, -, hM, -⟩, -⟩ := w1
          rw [o2, hM]
          have := qwM_r (T := T) (N := N) (g := g) (P := p) (dg := dg) (W := W)
          omega
        rcases hcase with rfl | rfl | rfl | rfl | rfl | rfl | rfl | rfl
        · refine qUn_ck hH (zm S (y + 3) 1) ?_ (fun m1 k1 H1 => ?_) hQ
          · simp (config := { maxSteps := 2000000 }) (disch := first | omega | (simp only [K_3 hK, a1, a2, x6, ky, y1, ky3, qb_in, qkW, qmW, qnW, true_and, and_true, or_self, true_or, or_true, and_self]; done) | (simp only [K_3 hK, a1, a2, x6, ky, y1, ky3, qb_in, qkW, qmW, qnW, true_and, and_true, or_self, true_or, or_true, and_self]; omega)) only [zD_133, b133_0, b133_5, b133_11, b133_20, b133_31, b133_88, b133_97, b133_108, b133_112, b133_113, b133_114, b133_120, b133_126, b133_132, b133_138, b133_144, b133_153, i133, w133_41, qcall_l, qcall_r, qretn_l, qJ_s, qJ_n, qV0, qEx, ↓qif0, ↓zchk_pos, ↓reduceIte, qput, qWW, qmW, qkW, qnW, K_3 hK, bo, if_neg (show ¬ j < 0 by omega), a1, a2, x6, x7, if_pos c2.2, hy, w133_41, Int.reduceEq, ky, y1, ky3]
          · obtain ⟨m3, f13, h30, H3, r, n52, ⟨n73, dv⟩, n74, n75, n76, n78, n79, n80_⟩ := ref m1 k1 H1
            refine ⟨m3, ?_, f13, h30, H3⟩
            have p20 : m3 37 20 = 52 := P_37_20 H3.1.1.2.1
            have pp : m3 37 58 = 76 := P_37_58 H3.1.1.2.1
            have z2 : z32 (zm S 52 b - 1) = zm S 52 b - 1 := q32 (by omega)
            rw [r, b268_69]
            simp (config := { maxSteps := 2000000 }) (disch := first | omega | (simp only [K_37 hK, K_52 hK, K_76 hK, p20, pp, qb_in, qkW, qmW, qnW, true_and, and_true, or_self, true_or, or_true, and_self]; done) | (simp only [K_37 hK, K_52 hK, K_76 hK, p20, pp, qb_in, qkW, qmW, qnW, true_and, and_true, or_self, true_or, or_true, and_self]; omega)) only [b268_0, b268_5, b268_8, b268_21, b268_24, b268_28, b268_29, b268_37, b268_41, b268_48, b268_51, b268_55, b268_56, b268_59, b268_62, b268_64, b268_69, b268_84, b268_88, b268_97, b268_102, b268_111, b268_115, b268_119, b268_124, b268_136, b268_147, b268_148, b268_153, b268_162, b268_167, b268_176, b268_182, b268_191, b268_197, qcall_l, qcall_r, qretn_l, qJ_s, qJ_n, qV0, qEx, ↓qif0, ↓zchk_pos, ↓reduceIte, qput, qWW, qmW, qkW, qnW, K_37 hK, K_52 hK, K_76 hK, p20, pp, n52, z2, Int.reduceLT, Int.reduceEq, n76]
        · refine qUn_ck hH (if zm S (y + 3) 2 = 0 then 0 else 1) ?_ (fun m1 k1 H1 => ?_) hQ
          · rcases mk01 with q | q
            · rw [if_pos q]
              simp (config := { maxSteps := 2000000 }) (disch := first | omega | (simp only [K_3 hK, a1, a2, x6, ky, y1, ky3, qb_in, qkW, qmW, qnW, true_and, and_true, or_self, true_or, or_true, and_self]; done) | (simp only [K_3 hK, a1, a2, x6, ky, y1, ky3, qb_in, qkW, qmW, qnW, true_and, and_true, or_self, true_or, or_true, and_self]; omega)) only [zD_133, b133_0, b133_5, b133_11, b133_20, b133_31, b133_88, b133_97, b133_108, b133_112, b133_113, b133_114, b133_120, b133_126, b133_132, b133_138, b133_144, b133_153, i133, w133_41, qcall_l, qcall_r, qretn_l, qJ_s, qJ_n, qV0, qEx, ↓qif0, ↓zchk_pos, ↓reduceIte, qput, qWW, qmW, qkW, qnW, K_3 hK, bo, if_neg (show ¬ j < 0 by omega), a1, a2, x6, x7, if_pos c2.2, hy, w133_41, Int.reduceEq, ky, y1, ky3, q]
            · rw [if_neg (show ¬ zm S (y + 3) 2 = 0 by omega)]
              simp (config := { maxSteps := 2000000 }) (disch := first | omega | (simp only [K_3 hK, a1, a2, x6, ky, y1, ky3, qb_in, qkW, qmW, qnW, true_and, and_true, or_self, true_or, or_true, and_self]; done) | (simp only [K_3 hK, a1, a2, x6, ky, y1, ky3, qb_in, qkW, qmW, qnW, true_and, and_true, or_self, true_or, or_true, and_self]; omega)) only [zD_133, b133_0, b133_5, b133_11, b133_20, b133_31, b133_88, b133_97, b133_108, b133_112, b133_113, b133_114, b133_120, b133_126, b133_132, b133_138, b133_144, b133_153, i133, w133_41, qcall_l, qcall_r, qretn_l, qJ_s, qJ_n, qV0, qEx, ↓qif0, ↓zchk_pos, ↓reduceIte, qput, qWW, qmW, qkW, qnW, K_3 hK, bo, if_neg (show ¬ j < 0 by omega), a1, a2, x6, x7, if_pos c2.2, hy, w133_41, Int.reduceEq, ky, y1, ky3, q]
          · obtain ⟨m3, f13, h30, H3, r, n52, ⟨n73, dv⟩, n74, n75, n76, n78, n79, n80_⟩ := ref m1 k1 H1
            refine ⟨m3, ?_, f13, h30, H3⟩
            have p20 : m3 37 20 = 52 := P_37_20 H3.1.1.2.1
            have pp : m3 37 61 = 79 := P_37_61 H3.1.1.2.1
            have z2 : z32 (zm S 52 b - 1) = zm S 52 b - 1 := q32 (by omega)
            rw [r, b268_69]
            rcases mk01 with q | q
            · rw [if_pos q]
              simp (config := { maxSteps := 2000000 }) (disch := first | omega | (simp only [K_37 hK, K_52 hK, K_79 hK, p20, pp, qb_in, qkW, qmW, qnW, true_and, and_true, or_self, true_or, or_true, and_self]; done) | (simp only [K_37 hK, K_52 hK, K_79 hK, p20, pp, qb_in, qkW, qmW, qnW, true_and, and_true, or_self, true_or, or_true, and_self]; omega)) only [b268_0, b268_5, b268_8, b268_21, b268_24, b268_28, b268_29, b268_37, b268_41, b268_48, b268_51, b268_55, b268_56, b268_59, b268_62, b268_64, b268_69, b268_84, b268_88, b268_97, b268_102, b268_111, b268_115, b268_119, b268_124, b268_136, b268_147, b268_148, b268_153, b268_162, b268_167, b268_176, b268_182, b268_191, b268_197, qcall_l, qcall_r, qretn_l, qJ_s, qJ_n, qV0, qEx, ↓qif0, ↓zchk_pos, ↓reduceIte, qput, qWW, qmW, qkW, qnW, K_37 hK, K_52 hK, K_79 hK, p20, pp, n52, z2, Int.reduceLT, Int.reduceEq, n79, q]
            · rw [if_neg (show ¬ zm S (y + 3) 2 = 0 by omega)]
              simp (config := { maxSteps := 2000000 }) (disch := first | omega | (simp only [K_37 hK, K_52 hK, K_79 hK, p20, pp, qb_in, qkW, qmW, qnW, true_and, and_true, or_self, true_or, or_true, and_self]; done) | (simp only [K_37 hK, K_52 hK, K_79 hK, p20, pp, qb_in, qkW, qmW, qnW, true_and, and_true, or_self, true_or, or_true, and_self]; omega)) only [b268_0, b268_5, b268_8, b268_21, b268_24, b268_28, b268_29, b268_37, b268_41, b268_48, b268_51, b268_55, b268_56, b268_59, b268_62, b268_64, b268_69, b268_84, b268_88, b268_97, b268_102, b268_111, b268_115, b268_119, b268_124, b268_136, b268_147, b268_148, b268_153, b268_162, b268_167, b268_176, b268_182, b268_191, b268_197, qcall_l, qcall_r, qretn_l, qJ_s, qJ_n, qV0, qEx, ↓qif0, ↓zchk_pos, ↓reduceIte, qput, qWW, qmW, qkW, qnW, K_37 hK, K_52 hK, K_79 hK, p20, pp, n52, z2, Int.reduceLT, Int.reduceEq, n79, q]
        · refine qUn_ck hH (zm S y 2) ?_ (fun m1 k1 H1 => ?_) hQ
          · simp (config := { maxSteps := 2000000 }) (disch := first | omega | (simp only [K_3 hK, a1, a2, x6, ky, y1, ky3, qb_in, qkW, qmW, qnW, true_and, and_true, or_self, true_or, or_true, and_self]; done) | (simp only [K_3 hK, a1, a2, x6, ky, y1, ky3, qb_in, qkW, qmW, qnW, true_and, and_true, or_self, true_or, or_true, and_self]; omega)) only [zD_133, b133_0, b133_5, b133_11, b133_20, b133_31, b133_88, b133_97, b133_108, b133_112, b133_113, b133_114, b133_120, b133_126, b133_132, b133_138, b133_144, b133_153, i133, w133_41, qcall_l, qcall_r, qretn_l, qJ_s, qJ_n, qV0, qEx, ↓qif0, ↓zchk_pos, ↓reduceIte, qput, qWW, qmW, qkW, qnW, K_3 hK, bo, if_neg (show ¬ j < 0 by omega), a1, a2, x6, x7, if_pos c2.2, hy, w133_41, Int.reduceEq, ky, y1, ky3]
          · obtain ⟨m3, f13, h30, H3, r, n52, ⟨n73, dv⟩, n74, n75, n76, n78, n79, n80_⟩ := ref m1 k1 H1
            refine ⟨m3, ?_, f13, h30, H3⟩
            have p20 : m3 37 20 = 52 := P_37_20 H3.1.1.2.1
            have pp : m3 37 55 = 73 := P_37_55 H3.1.1.2.1
            have z2 : z32 (zm S 52 b - 1) = zm S 52 b - 1 := q32 (by omega)
            rw [r, b268_69]
            have td : Int.tdiv (zm S y 2 * (zm S 52 b - 1) + (zm S y 3 - 1)) (zm S 52 b - 1) = zm S y 2 := by
              rw [Int.tdiv_eq_ediv_of_nonneg (by have := Int.mul_nonneg dv.1 (show 0 ≤ zm S 52 b - 1 by omega); omega)]
              exact (qdmod ⟨dv.2.2.1, dv.2.2.2⟩).2
            have z3 : z32 (zm S y 2) = zm S y 2 := q32 (by omega)
            simp (config := { maxSteps := 2000000 }) (disch := first | omega | (simp only [K_37 hK, K_52 hK, K_73 hK, p20, pp, qb_in, qkW, qmW, qnW, true_and, and_true, or_self, true_or, or_true, and_self]; done) | (simp only [K_37 hK, K_52 hK, K_73 hK, p20, pp, qb_in, qkW, qmW, qnW, true_and, and_true, or_self, true_or, or_true, and_self]; omega)) only [b268_0, b268_5, b268_8, b268_21, b268_24, b268_28, b268_29, b268_37, b268_41, b268_48, b268_51, b268_55, b268_56, b268_59, b268_62, b268_64, b268_69, b268_84, b268_88, b268_97, b268_102, b268_111, b268_115, b268_119, b268_124, b268_136, b268_147, b268_148, b268_153, b268_162, b268_167, b268_176, b268_182, b268_191, b268_197, qcall_l, qcall_r, qretn_l, qJ_s, qJ_n, qV0, qEx, ↓qif0, ↓zchk_pos, ↓reduceIte, qput, qWW, qmW, qkW, qnW, K_37 hK, K_52 hK, K_73 hK, p20, pp, n52, z2, Int.reduceLT, Int.reduceEq, n73, td, z3]
        · refine qUn_ck hH (zm S y 3) ?_ (fun m1 k1 H1 => ?_) hQ
          · simp (config := { maxSteps := 2000000 }) (disch := first | omega | (simp only [K_3 hK, a1, a2, x6, ky, y1, ky3, qb_in, qkW, qmW, qnW, true_and, and_true, or_self, true_or, or_true, and_self]; done) | (simp only [K_3 hK, a1, a2, x6, ky, y1, ky3, qb_in, qkW, qmW, qnW, true_and, and_true, or_self, true_or, or_true, and_self]; omega)) only [zD_133, b133_0, b133_5, b133_11, b133_20, b133_31, b133_88, b133_97, b133_108, b133_112, b133_113, b133_114, b133_120, b133_126, b133_132, b133_138, b133_144, b133_153, i133, w133_41, qcall_l, qcall_r, qretn_l, qJ_s, qJ_n, qV0, qEx, ↓qif0, ↓zchk_pos, ↓reduceIte, qput, qWW, qmW, qkW, qnW, K_3 hK, bo, if_neg (show ¬ j < 0 by omega), a1, a2, x6, x7, if_pos c2.2, hy, w133_41, Int.reduceEq, ky, y1, ky3]
          · obtain ⟨m3, f13, h30, H3, r, n52, ⟨n73, dv⟩, n74, n75, n76, n78, n79, n80_⟩ := ref m1 k1 H1
            refine ⟨m3, ?_, f13, h30, H3⟩
            have p20 : m3 37 20 = 52 := P_37_20 H3.1.1.2.1
            have pp : m3 37 55 = 73 := P_37_55 H3.1.1.2.1
            have z2 : z32 (zm S 52 b - 1) = zm S 52 b - 1 := q32 (by omega)
            rw [r, b268_69]
            have td : Int.tmod (zm S y 2 * (zm S 52 b - 1) + (zm S y 3 - 1)) (zm S 52 b - 1) = zm S y 3 - 1 := by
              rw [Int.tmod_eq_emod_of_nonneg (by have := Int.mul_nonneg dv.1 (show 0 ≤ zm S 52 b - 1 by omega); omega)]
              exact (qdmod ⟨dv.2.2.1, dv.2.2.2⟩).1
            have z3 : z32 (1 + (zm S y 3 - 1)) = zm S y 3 := by rw [q32 (by omega)]; omega
            simp (config := { maxSteps := 2000000 }) (disch := first | omega | (simp only [K_37 hK, K_52 hK, K_73 hK, p20, pp, qb_in, qkW, qmW, qnW, true_and, and_true, or_self, true_or, or_true, and_self]; done) | (simp only [K_37 hK, K_52 hK, K_73 hK, p20, pp, qb_in, qkW, qmW, qnW, true_and, and_true, or_self, true_or, or_true, and_self]; omega)) only [b268_0, b268_5, b268_8, b268_21, b268_24, b268_28, b268_29, b268_37, b268_41, b268_48, b268_51, b268_55, b268_56, b268_59, b268_62, b268_64, b268_69, b268_84, b268_88, b268_97, b268_102, b268_111, b268_115, b268_119, b268_124, b268_136, b268_147, b268_148, b268_153, b268_162, b268_167, b268_176, b268_182, b268_191, b268_197, qcall_l, qcall_r, qretn_l, qJ_s, qJ_n, qV0, qEx, ↓qif0, ↓zchk_pos, ↓reduceIte, qput, qWW, qmW, qkW, qnW, K_37 hK, K_52 hK, K_73 hK, p20, pp, n52, z2, Int.reduceLT, Int.reduceEq, n73, td, z3]
        · refine qUn_ck hH (zm S y 4) ?_ (fun m1 k1 H1 => ?_) hQ
          · simp (config := { maxSteps := 2000000 }) (disch := first | omega | (simp only [K_3 hK, a1, a2, x6, ky, y1, ky3, qb_in, qkW, qmW, qnW, true_and, and_true, or_self, true_or, or_true, and_self]; done) | (simp only [K_3 hK, a1, a2, x6, ky, y1, ky3, qb_in, qkW, qmW, qnW, true_and, and_true, or_self, true_or, or_true, and_self]; omega)) only [zD_133, b133_0, b133_5, b133_11, b133_20, b133_31, b133_88, b133_97, b133_108, b133_112, b133_113, b133_114, b133_120, b133_126, b133_132, b133_138, b133_144, b133_153, i133, w133_41, qcall_l, qcall_r, qretn_l, qJ_s, qJ_n, qV0, qEx, ↓qif0, ↓zchk_pos, ↓reduceIte, qput, qWW, qmW, qkW, qnW, K_3 hK, bo, if_neg (show ¬ j < 0 by omega), a1, a2, x6, x7, if_pos c2.2, hy, w133_41, Int.reduceEq, ky, y1, ky3]
          · obtain ⟨m3, f13, h30, H3, r, n52, ⟨n73, dv⟩, n74, n75, n76, n78, n79, n80_⟩ := ref m1 k1 H1
            refine ⟨m3, ?_, f13, h30, H3⟩
            have p20 : m3 37 20 = 52 := P_37_20 H3.1.1.2.1
            have pp : m3 37 56 = 74 := P_37_56 H3.1.1.2.1
            have z2 : z32 (zm S 52 b - 1) = zm S 52 b - 1 := q32 (by omega)
            rw [r, b268_69]
            simp (config := { maxSteps := 2000000 }) (disch := first | omega | (simp only [K_37 hK, K_52 hK, K_74 hK, p20, pp, qb_in, qkW, qmW, qnW, true_and, and_true, or_self, true_or, or_true, and_self]; done) | (simp only [K_37 hK, K_52 hK, K_74 hK, p20, pp, qb_in, qkW, qmW, qnW, true_and, and_true, or_self, true_or, or_true, and_self]; omega)) only [b268_0, b268_5, b268_8, b268_21, b268_24, b268_28, b268_29, b268_37, b268_41, b268_48, b268_51, b268_55, b268_56, b268_59, b268_62, b268_64, b268_69, b268_84, b268_88, b268_97, b268_102, b268_111, b268_115, b268_119, b268_124, b268_136, b268_147, b268_148, b268_153, b268_162, b268_167, b268_176, b268_182, b268_191, b268_197, qcall_l, qcall_r, qretn_l, qJ_s, qJ_n, qV0, qEx, ↓qif0, ↓zchk_pos, ↓reduceIte, qput, qWW, qmW, qkW, qnW, K_37 hK, K_52 hK, K_74 hK, p20, pp, n52, z2, Int.reduceLT, Int.reduceEq, n74]
        · refine qUn_ck hH (zm S y 5) ?_ (fun m1 k1 H1 => ?_) hQ
          · simp (config := { maxSteps := 2000000 }) (disch := first | omega | (simp only [K_3 hK, a1, a2, x6, ky, y1, ky3, qb_in, qkW, qmW, qnW, true_and, and_true, or_self, true_or, or_true, and_self]; done) | (simp only [K_3 hK, a1, a2, x6, ky, y1, ky3, qb_in, qkW, qmW, qnW, true_and, and_true, or_self, true_or, or_true, and_self]; omega)) only [zD_133, b133_0, b133_5, b133_11, b133_20, b133_31, b133_88, b133_97, b133_108, b133_112, b133_113, b133_114, b133_120, b133_126, b133_132, b133_138, b133_144, b133_153, i133, w133_41, qcall_l, qcall_r, qretn_l, qJ_s, qJ_n, qV0, qEx, ↓qif0, ↓zchk_pos, ↓reduceIte, qput, qWW, qmW, qkW, qnW, K_3 hK, bo, if_neg (show ¬ j < 0 by omega), a1, a2, x6, x7, if_pos c2.2, hy, w133_41, Int.reduceEq, ky, y1, ky3]
          · obtain ⟨m3, f13, h30, H3, r, n52, ⟨n73, dv⟩, n74, n75, n76, n78, n79, n80_⟩ := ref m1 k1 H1
            refine ⟨m3, ?_, f13, h30, H3⟩
            have p20 : m3 37 20 = 52 := P_37_20 H3.1.1.2.1
            have pp : m3 37 57 = 75 := P_37_57 H3.1.1.2.1
            have z2 : z32 (zm S 52 b - 1) = zm S 52 b - 1 := q32 (by omega)
            rw [r, b268_69]
            simp (config := { maxSteps := 2000000 }) (disch := first | omega | (simp only [K_37 hK, K_52 hK, K_75 hK, p20, pp, qb_in, qkW, qmW, qnW, true_and, and_true, or_self, true_or, or_true, and_self]; done) | (simp only [K_37 hK, K_52 hK, K_75 hK, p20, pp, qb_in, qkW, qmW, qnW, true_and, and_true, or_self, true_or, or_true, and_self]; omega)) only [b268_0, b268_5, b268_8, b268_21, b268_24, b268_28, b268_29, b268_37, b268_41, b268_48, b268_51, b268_55, b268_56, b268_59, b268_62, b268_64, b268_69, b268_84, b268_88, b268_97, b268_102, b268_111, b268_115, b268_119, b268_124, b268_136, b268_147, b268_148, b268_153, b268_162, b268_167, b268_176, b268_182, b268_191, b268_197, qcall_l, qcall_r, qretn_l, qJ_s, qJ_n, qV0, qEx, ↓qif0, ↓zchk_pos, ↓reduceIte, qput, qWW, qmW, qkW, qnW, K_37 hK, K_52 hK, K_75 hK, p20, pp, n52, z2, Int.reduceLT, Int.reduceEq, n75]
        · refine qUn_ck hH (zm S y 6) ?_ (fun m1 k1 H1 => ?_) hQ
          · simp (config := { maxSteps := 2000000 }) (disch := first | omega | (simp only [K_3 hK, a1, a2, x6, ky, y1, ky3, qb_in, qkW, qmW, qnW, true_and, and_true, or_self, true_or, or_true, and_self]; done) | (simp only [K_3 hK, a1, a2, x6, ky, y1, ky3, qb_in, qkW, qmW, qnW, true_and, and_true, or_self, true_or, or_true, and_self]; omega)) only [zD_133, b133_0, b133_5, b133_11, b133_20, b133_31, b133_88, b133_97, b133_108, b133_112, b133_113, b133_114, b133_120, b133_126, b133_132, b133_138, b133_144, b133_153, i133, w133_41, qcall_l, qcall_r, qretn_l, qJ_s, qJ_n, qV0, qEx, ↓qif0, ↓zchk_pos, ↓reduceIte, qput, qWW, qmW, qkW, qnW, K_3 hK, bo, if_neg (show ¬ j < 0 by omega), a1, a2, x6, x7, if_pos c2.2, hy, w133_41, Int.reduceEq, ky, y1, ky3]
          · obtain ⟨m3, f13, h30, H3, r, n52, ⟨n73, dv⟩, n74, n75, n76, n78, n79, n80_⟩ := ref m1 k1 H1
            refine ⟨m3, ?_, f13, h30, H3⟩
            have p20 : m3 37 20 = 52 := P_37_20 H3.1.1.2.1
            have pp : m3 37 62 = 80 := P_37_62 H3.1.1.2.1
            have z2 : z32 (zm S 52 b - 1) = zm S 52 b - 1 := q32 (by omega)
            rw [r, b268_69]
            simp (config := { maxSteps := 2000000 }) (disch := first | omega | (simp only [K_37 hK, K_52 hK, K_80 hK, p20, pp, qb_in, qkW, qmW, qnW, true_and, and_true, or_self, true_or, or_true, and_self]; done) | (simp only [K_37 hK, K_52 hK, K_80 hK, p20, pp, qb_in, qkW, qmW, qnW, true_and, and_true, or_self, true_or, or_true, and_self]; omega)) only [b268_0, b268_5, b268_8, b268_21, b268_24, b268_28, b268_29, b268_37, b268_41, b268_48, b268_51, b268_55, b268_56, b268_59, b268_62, b268_64, b268_69, b268_84, b268_88, b268_97, b268_102, b268_111, b268_115, b268_119, b268_124, b268_136, b268_147, b268_148, b268_153, b268_162, b268_167, b268_176, b268_182, b268_191, b268_197, qcall_l, qcall_r, qretn_l, qJ_s, qJ_n, qV0, qEx, ↓qif0, ↓zchk_pos, ↓reduceIte, qput, qWW, qmW, qkW, qnW, K_37 hK, K_52 hK, K_80 hK, p20, pp, n52, z2, Int.reduceLT, Int.reduceEq, n80_]
        · refine qUn_ck hH (zm S (y + 3) 3) ?_ (fun m1 k1 H1 => ?_) hQ
          · simp (config := { maxSteps := 2000000 }) (disch := first | omega | (simp only [K_3 hK, a1, a2, x6, ky, y1, ky3, qb_in, qkW, qmW, qnW, true_and, and_true, or_self, true_or, or_true, and_self]; done) | (simp only [K_3 hK, a1, a2, x6, ky, y1, ky3, qb_in, qkW, qmW, qnW, true_and, and_true, or_self, true_or, or_true, and_self]; omega)) only [zD_133, b133_0, b133_5, b133_11, b133_20, b133_31, b133_88, b133_97, b133_108, b133_112, b133_113, b133_114, b133_120, b133_126, b133_132, b133_138, b133_144, b133_153, i133, w133_41, qcall_l, qcall_r, qretn_l, qJ_s, qJ_n, qV0, qEx, ↓qif0, ↓zchk_pos, ↓reduceIte, qput, qWW, qmW, qkW, qnW, K_3 hK, bo, if_neg (show ¬ j < 0 by omega), a1, a2, x6, x7, if_pos c2.2, hy, w133_41, Int.reduceEq, ky, y1, ky3]
          · obtain ⟨m3, f13, h30, H3, r, n52, ⟨n73, dv⟩, n74, n75, n76, n78, n79, n80_⟩ := ref m1 k1 H1
            refine ⟨m3, ?_, f13, h30, H3⟩
            have p20 : m3 37 20 = 52 := P_37_20 H3.1.1.2.1
            have pp : m3 37 60 = 78 := P_37_60 H3.1.1.2.1
            have z2 : z32 (zm S 52 b - 1) = zm S 52 b - 1 := q32 (by omega)
            rw [r, b268_69]
            simp (config := { maxSteps := 2000000 }) (disch := first | omega | (simp only [K_37 hK, K_52 hK, K_78 hK, p20, pp, qb_in, qkW, qmW, qnW, true_and, and_true, or_self, true_or, or_true, and_self]; done) | (simp only [K_37 hK, K_52 hK, K_78 hK, p20, pp, qb_in, qkW, qmW, qnW, true_and, and_true, or_self, true_or, or_true, and_self]; omega)) only [b268_0, b268_5, b268_8, b268_21, b268_24, b268_28, b268_29, b268_37, b268_41, b268_48, b268_51, b268_55, b268_56, b268_59, b268_62, b268_64, b268_69, b268_84, b268_88, b268_97, b268_102, b268_111, b268_115, b268_119, b268_124, b268_136, b268_147, b268_148, b268_153, b268_162, b268_167, b268_176, b268_182, b268_191, b268_197, qcall_l, qcall_r, qretn_l, qJ_s, qJ_n, qV0, qEx, ↓qif0, ↓zchk_pos, ↓reduceIte, qput, qWW, qmW, qkW, qnW, K_37 hK, K_52 hK, K_78 hK, p20, pp, n52, z2, Int.reduceLT, Int.reduceEq, n78]
      · have i2 := r_in e a 0 7 (zbump S) (by omega)
        rw [qb_n c3] at i2
        have hd := r_holdn e (zbump S) (zm S) 2 (by omega) hK (by decide)
        refine qUn_cx hH 0 ?_ (by decide) ⟨qu (zm S) 37 0 2, ?_, qF0_u _ 2, qu_s _ _ _ _, qHB_0 (S := S) (m := zm S) (qHB1_0 hH.1) 2⟩ hQx
        · simp (config := { maxSteps := 2000000 }) (disch := first | omega | (simp only [K_3 hK, a1, a2, x6, qb_in, qkW, qmW, qnW, true_and, and_true, or_self, true_or, or_true, and_self]; done) | (simp only [K_3 hK, a1, a2, x6, qb_in, qkW, qmW, qnW, true_and, and_true, or_self, true_or, or_true, and_self]; omega)) only [zD_133, b133_0, b133_5, b133_11, b133_20, b133_31, b133_88, b133_97, b133_108, b133_112, b133_113, b133_114, b133_120, b133_126, b133_132, b133_138, b133_144, b133_153, i133, w133_41, qcall_l, qcall_r, qretn_l, qJ_s, qJ_n, qV0, qEx, ↓qif0, ↓zchk_pos, ↓reduceIte, qput, qWW, qmW, qkW, qnW, K_3 hK, bo, if_neg (show ¬ j < 0 by omega), a1, a2, x6, x7, if_pos c2.2, hy, w133_41, if_neg (show ¬ a = 0 by omega), if_neg (show ¬ a = 1 by omega), if_neg (show ¬ a = 2 by omega), if_neg (show ¬ a = 3 by omega), if_neg (show ¬ a = 4 by omega), if_neg (show ¬ a = 5 by omega), if_neg (show ¬ a = 6 by omega), if_neg (show ¬ a = 7 by omega)]
        · have hd : zD e 182 [vr 37, vi 2] (zbump S) = some (.inl (some (vi 0)), qW (zbump S) (qu (zm S) 37 0 2)) := hd
          have e22 : zm (zbump S) 37 22 = 54 := p22
          have e54 : zm (zbump S) 54 b = zm S 54 b := rfl
          simp (config := { maxSteps := 2000000 }) (disch := first | omega | (simp only [K_37 hKb, K_54 hKb, e22, qb_in, qkW, qmW, qnW, true_and, and_true, or_self, true_or, or_true, and_self]; done) | (simp only [K_37 hKb, K_54 hKb, e22, qb_in, qkW, qmW, qnW, true_and, and_true, or_self, true_or, or_true, and_self]; omega)) only [zD_268, b268_0, b268_5, b268_8, b268_21, b268_24, b268_28, b268_29, b268_37, b268_41, b268_48, b268_51, b268_55, b268_56, b268_59, b268_62, b268_64, b268_84, b268_88, b268_97, b268_102, b268_111, b268_115, b268_119, b268_124, b268_136, b268_147, b268_148, b268_153, b268_162, b268_167, b268_176, b268_182, b268_191, b268_197, qcall_l, qcall_r, qretn_l, qJ_s, qJ_n, qV0, qEx, ↓qif0, ↓zchk_pos, ↓reduceIte, qput, qWW, qmW, qkW, qnW, K_37 hKb, K_54 hKb, ibb, e22, e54, z1, i1b, i2, hd, Int.reduceEq]
          rfl
    · rw [qb_n (show ¬ (0 ≤ j ∧ j ≤ zm S 54 b - 1) by omega)] at i1b
      have hd := r_holdn e (zbump S) (zm S) 1 (by omega) hK (by decide)
      refine qUn_cx hH 2 ?_ (by decide) ⟨qu (zm S) 37 0 1, ?_, qF0_u _ 1, qu_s _ _ _ _, qHB_0 (S := S) (m := zm S) (qHB1_0 hH.1) 1⟩ hQx
      · by_cases c4 : j < 0
        · simp (config := { maxSteps := 2000000 }) (disch := first | omega | (simp only [K_3 hK, qb_in, qkW, qmW, qnW, true_and, and_true, or_self, true_or, or_true, and_self]; done) | (simp only [K_3 hK, qb_in, qkW, qmW, qnW, true_and, and_true, or_self, true_or, or_true, and_self]; omega)) only [zD_133, b133_0, b133_5, b133_11, b133_20, b133_31, b133_88, b133_97, b133_108, b133_112, b133_113, b133_114, b133_120, b133_126, b133_132, b133_138, b133_144, b133_153, i133, w133_41, qcall_l, qcall_r, qretn_l, qJ_s, qJ_n, qV0, qEx, ↓qif0, ↓zchk_pos, ↓reduceIte, qput, qWW, qmW, qkW, qnW, K_3 hK, bo, if_pos c4]
        · simp (config := { maxSteps := 2000000 }) (disch := first | omega | (simp only [K_3 hK, a1, qb_in, qkW, qmW, qnW, true_and, and_true, or_self, true_or, or_true, and_self]; done) | (simp only [K_3 hK, a1, qb_in, qkW, qmW, qnW, true_and, and_true, or_self, true_or, or_true, and_self]; omega)) only [zD_133, b133_0, b133_5, b133_11, b133_20, b133_31, b133_88, b133_97, b133_108, b133_112, b133_113, b133_114, b133_120, b133_126, b133_132, b133_138, b133_144, b133_153, i133, w133_41, qcall_l, qcall_r, qretn_l, qJ_s, qJ_n, qV0, qEx, ↓qif0, ↓zchk_pos, ↓reduceIte, qput, qWW, qmW, qkW, qnW, K_3 hK, bo, if_neg c4, a1, x7, if_neg (show ¬ j < zm S 54 b by omega)]
      · have hd : zD e 182 [vr 37, vi 1] (zbump S) = some (.inl (some (vi 0)), qW (zbump S) (qu (zm S) 37 0 1)) := hd
        have e22 : zm (zbump S) 37 22 = 54 := p22
        have e54 : zm (zbump S) 54 b = zm S 54 b := rfl
        simp (config := { maxSteps := 2000000 }) (disch := first | omega | (simp only [K_37 hKb, K_54 hKb, e22, qb_in, qkW, qmW, qnW, true_and, and_true, or_self, true_or, or_true, and_self]; done) | (simp only [K_37 hKb, K_54 hKb, e22, qb_in, qkW, qmW, qnW, true_and, and_true, or_self, true_or, or_true, and_self]; omega)) only [zD_268, b268_0, b268_5, b268_8, b268_21, b268_24, b268_28, b268_29, b268_37, b268_41, b268_48, b268_51, b268_55, b268_56, b268_59, b268_62, b268_64, b268_84, b268_88, b268_97, b268_102, b268_111, b268_115, b268_119, b268_124, b268_136, b268_147, b268_148, b268_153, b268_162, b268_167, b268_176, b268_182, b268_191, b268_197, qcall_l, qcall_r, qretn_l, qJ_s, qJ_n, qV0, qEx, ↓qif0, ↓zchk_pos, ↓reduceIte, qput, qWW, qmW, qkW, qnW, K_37 hKb, K_54 hKb, ibb, e22, e54, z1, i1b, hd, Int.reduceEq]
        rfl
  · exact qUn_cn hH (q_word_n d S b j a (by omega) hK hY.1 c1) hQx
