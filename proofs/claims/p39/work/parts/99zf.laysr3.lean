/-! The reference lays a book out: all of its words. -/
theorem qWdo_f {m m' : Int → Int → Int} {b j : Int} {L E : List Int} {ah U M : Int} (h : qWdo m b j L E ah U M) (h12 : m' 37 12 = m 37 12) (f : ∀ x, 39 ≤ x → x ≤ 61 → m' x = m x) : qWdo m' b j L E ah U M := by
  obtain ⟨W, dg, st, bg, mk, c, N, g, T, p, ⟨w1, w2, w3⟩, ⟨v1, v2, rc, tk⟩, ⟨p1, p2, p3⟩, r⟩ := h
  exact ⟨W, dg, st, bg, mk, c, N, g, T, p, ⟨qWr_f w1 fun x x1 x2 => f x (by omega) (by omega), w2, by rw [f 61 (by decide) (by decide)]; exact w3⟩, ⟨by rw [f 49 (by decide) (by decide)]; exact v1, by rw [f 50 (by decide) (by decide)]; exact v2, qRc_f rc fun x x1 x2 => f x x1 (by omega), tk⟩, ⟨by rw [qPw_e h12 (f 46 (by decide) (by decide)) (f 47 (by decide) (by decide)) (f 48 (by decide) (by decide))]; exact p1, p2, p3⟩, r⟩
/-- one word is opened: what is at hand -/
def qAtw (m : Int → Int → Int) (p n : Nat) (sg : Int) (C : List (Int × Int)) (L E : List Int) (U M : Int) : Prop := (qKc m L ∧ m 37 46 = sg ∧ qFd m C U ∧ m 37 43 = M ∧ m 37 38 = (p : Int)) ∧ (0 ≤ sg ∧ sg ≤ 100) ∧ (C.length ≤ 16 ∧ L.length ≤ 16) ∧ (0 < n ∧ (p = 0 ∨ qPk p n)) ∧ (E = (qpl (p : Int) (n : Int) n).map fun x => sg + qcc C x) ∧ (0 ≤ M ∧ M ≤ 1)
theorem r_opensW (e : Nat) (S : zS) (m : Int → Int → Int) (b j ah U M : Int) (L E : List Int) (he : 8 ≤ e) (hK : qK S) (hP : qP m) (hd : 0 ≤ m 37 12 ∧ m 37 12 ≤ 12) (hb : 0 ≤ b ∧ b < 4) (hj : 0 ≤ j ∧ j < 80) (hw : qWdo m b j L E ah U M) :
    ∃ m', zD e 256 [vr 37, vi b, vi j] (qW S m) = some (.inl none, qW S m') ∧ (∃ (p n : Nat) (sg : Int) (C : List (Int × Int)), qAtw m' p n sg C L E U M) ∧ qfr [64, 65, 66, 67, 68, 69] [32, 33, 34, 36, 37, 38, 40, 42, 43, 45, 46] m m' := by
  have ho := qWdo_o hw
  obtain ⟨W, dg, st, bg, mk, c, N, g, T, p, ⟨w1, w2, w3⟩, ⟨v1, v2, rc, tk⟩, ⟨p1, p2, p3⟩, hL, hE, hU, hM, -⟩ := hw
  obtain ⟨m', r, q1, q2, q3, q4, q5, q6, q7⟩ := r_opens e (qW S m) b j (80 * b + j) c N g (p : Int) T W dg st bg mk he hK hP hd rfl hb hj w1 w2 v1 v2 rc tk p1
  have ll := qwL_c (T := T) (N := N) (g := g) (P := p) (dg := dg) (st := st) (bg := bg) (mk := qmc mk) (W := W)
  rw [← hL] at q1 ll
  have l16 := ho.1
  refine ⟨m', r, ⟨p, W.length, (qwS T N g W p dg st bg).length, qwC T N g W p dg, ⟨q1, q2, by rw [hU]; exact q3, by rw [hM]; exact q4, q5⟩, by omega, by omega, ⟨w2.1.1, p2⟩, hE, by rw [hM]; exact qwM_r⟩, q7⟩
abbrev qlA : List Int := [64, 65, 66, 67, 68, 69, 71, 72, 73, 74, 75, 76, 77, 78, 79, 80]
abbrev qlJ : List Int := [32, 33, 34, 36, 37, 38, 40, 42, 43, 45, 46, 50, 51, 53, 63]
/-- all of a layout lies in the reference's rows -/
def qZc (m : Int → Int → Int) (w t : Int) (fL fE : Nat → List Int) (fA fU fM : Nat → Int) (J : Nat) : Prop := qZR m (qZn w t fL fE fA J) ∧ (∀ i : Nat, i < J → qZi m i (qZp w t fL fE fA i).1 (qZp w t fL fE fA i).2 (fL i).length (qlp (fL i) (fE i) (qZp w t fL fE fA i).2) (fU i) (fM i)) ∧ m 37 63 = (qZn w t fL fE fA J).2.1
theorem r_laysRun (e : Nat) (S : zS) (b w t : Int) (J : Nat) (fL fE : Nat → List Int) (fA fU fM : Nat → Int) (he : 9 ≤ e) (hK : qK S) (hP : qP (zm S)) (hd : 0 ≤ zm S 37 12 ∧ zm S 37 12 ≤ 12) (hb : 0 ≤ b ∧ b < 4) (h54 : zm S 54 b = (J : Int)) (hJ : J ≤ 80) (hw : 18 ≤ w ∧ w ≤ 40) (ht : 3 ≤ t ∧ t ≤ 25)
    (hwd : ∀ j : Nat, j < J → qWdo (zm S) b j (fL j) (fE j) (fA j) (fU j) (fM j)) (h0 : 0 < J → fA 0 = 1) :
    ∀ (f j : Nat) (m : Int → Int → Int) (x7 x8 x9 x10 x11 : zV), j + f = J → qZR m (qZn w t fL fE fA j) → (∀ i : Nat, i < j → qZi m i (qZp w t fL fE fA i).1 (qZp w t fL fE fA i).2 (fL i).length (qlp (fL i) (fE i) (qZp w t fL fE fA i).2) (fU i) (fM i)) → qfr qlA qlJ (zm S) m →
      ∃ m', zF_265 e 67 [vr 37, vi b, vi w, vi (t - 1), vi (qZn w t fL fE fA j).2.1, vi (qZn w t fL fE fA j).2.2.1, vi (j : Int), x7, x8, x9, x10, x11] [] (qW S m) = some (.inl none, qW S m') ∧ qZc m' w t fL fE fA fU fM J ∧ qfr qlA qlJ (zm S) m' ∧ m' 37 50 = m 37 50 ∧ m' 37 51 = m 37 51 := by
  have ho : ∀ j, j < J → qWo (fL j) (fE j) (fA j) := fun j hj => qWdo_o (hwd j hj)
  intro f
  induction f with
  | zero =>
    intro j m x7 x8 x9 x10 x11 hj hs hi hf
    obtain rfl : j = J := by omega
    have hPm : qP m := qP_fr hP hf (by decide)
    have m54 : m 54 b = (j : Int) := by rw [hf.1 54 (by decide) (by decide), h54]
    have n1 := hs.1
    refine ⟨qu m 37 63 (qZn w t fL fE fA j).2.1, ?_, ⟨qZR_e hs (qu_i _ _ _ _ _ (by decide)) (qu_o _ _ _ _ _ (by decide)) (qu_o _ _ _ _ _ (by decide)), fun i i1 => qZi_e (hi i i1) fun x x1 x2 => by rw [qu_o _ _ _ _ _ (by omega)], qu_s _ _ _ _⟩, qfr_t' hf (qfr_j m 63 _ (by decide)) (fun _ h => h) fun _ h => h, qu_i _ _ _ _ _ (by decide), qu_i _ _ _ _ _ (by decide)⟩
    rw [b265_67]
    have p22 := P_37_22 hPm
    simp (config := { maxSteps := 2000000 }) (disch := first | omega | (simp only [K_37 hK, K_54 hK, p22, qkW, qmW, true_and, and_true, or_self, true_or, or_true, and_self]; done) | (simp only [K_37 hK, K_54 hK, p22, qkW, qmW, true_and, and_true, or_self, true_or, or_true, and_self]; omega)) only [b265_406, qcall_l, qcall_r, qretn_l, qJ_s, qJ_n, qV0, qEx, ↓qif0, ↓zchk_pos, ↓reduceIte, qput, qWW, qmW, qkW, qnW, K_37 hK, p22, m54, if_neg (show ¬ (j : Int) < j by omega)]
  | succ f ih =>
    intro j m x7 x8 x9 x10 x11 hj hs hi hf
    have hPm : qP m := qP_fr hP hf (by decide)
    have m54 : m 54 b = (J : Int) := by rw [hf.1 54 (by decide) (by decide), h54]
    have m12 : m 37 12 = zm S 37 12 := hf.2 12 (by decide)
    have wj : qWdo m b j (fL j) (fE j) (fA j) (fU j) (fM j) := qWdo_f (hwd j (by omega)) m12 fun x x1 x2 => hf.1 x (by omega) (by simp only [List.mem_cons, List.not_mem_nil, or_false]; omega)
    have woj := ho j (by omega)
    have zk0 := (qZn_f (t := t) hw.1 ho h0 j (by omega)).1
    have z00 := qZn_0 (t := t) hw.1 ho h0 j (by omega)
    obtain ⟨m1, r1, ⟨p, n, sg, C, ⟨a1, a2, a3, a4, a5⟩, asg, aC, ap, aE, aM⟩, f1⟩ := r_opensW e S m b j (fA j) (fU j) (fM j) (fL j) (fE j) (by omega) hK hPm (by rw [m12]; exact hd) hb (by omega) wj
    have g1 : qfr qlA qlJ (zm S) m1 := qfr_t' hf (B := [64, 65, 66, 67, 68, 69]) (K := [32, 33, 34, 36, 37, 38, 40, 42, 43, 45, 46]) f1 (by decide) (by decide)
    have hP1 : qP m1 := qP_fr hP g1 (by decide)
    have hs1 : qZR m1 (qZn w t fL fE fA j) := qZR_e hs (f1.2 53 (by decide)) (f1.1 71 (by decide) (by decide)) (f1.1 72 (by decide) (by decide))
    have w3 : m1 61 (80 * b + (j : Int)) = fA j := by
      obtain ⟨-, -, -, -, -, -, -, -, -, -, ⟨-, -, w3⟩, -⟩ := wj
      rw [f1.1 61 (by decide) (by decide)]
      exact w3
    have elen := qpl_1 (p := p) (n := n) ap.1 ap.2
    have el : (fE j).length = if p = 0 then 1 else qpc 24 p := by rw [aE, List.length_map, elen]
    have plt : p < 16777216 := by
      rcases ap.2 with q | q
      · omega
      · have := (qPk_l q).2; omega
    obtain ⟨s, hsd⟩ : ∃ s, qZn w t fL fE fA j = s := ⟨_, rfl⟩
    have hp0 : qZp w t fL fE fA j = qZ0 w t s (fL j) (fE j) (fA j) := by unfold qZp; rw [hsd]
    have hzn : qZn w t fL fE fA (j + 1) = qZ w t s (fL j) (fE j) (fA j) := by rw [qZn, hsd]
    rw [hsd] at zk0 z00 hs1 hs ⊢
    obtain ⟨m2, r2, hs2, f2⟩ := r_laysPlace e S m1 b w t (j : Int) sg (fU j) (fA j) (3 * (j : Int)) ((j : Int) + 1) p n C s (fL j) (fE j) vu vu vu (by omega) hK hP1 hs1 zk0 (by omega) (by omega) hw ht a5 a2 asg a3 aC.1 ap.2 aE (fun q => by rw [el, if_pos q]) a1.1 woj
    have zf := qZ0_f (t := t) zk0 hw.1 woj z00
    obtain ⟨⟨s0, k⟩, hr⟩ : ∃ r, qZ0 w t s (fL j) (fE j) (fA j) = r := ⟨_, rfl⟩
    rw [hr] at zf hs2 r2 hp0
    obtain ⟨y1, y2, y3, y4, y5⟩ := zf
    have hs2 : qZR m2 s0 := hs2
    have g2 : qfr qlA qlJ (zm S) m2 := qfr_t' g1 (B := [71, 72]) (K := [53]) f2 (by decide) (by decide)
    have hP2 : qP m2 := qP_fr hP g2 (by decide)
    have yA : s0.1 ≤ 3 * (j : Int) + 3 := by
      have q : s0.1 ≤ (if qlp (fL j) (fE j) k < (fL j).length then 3 * (j : Int) else 3 * (j : Int) + 3) := y1.1.2
      split at q <;> omega
    obtain ⟨m3, r3, hs3, qi3, qo3, f3⟩ := r_laysTail e S m2 b w (t - 1) (j : Int) k (qlp (fL j) (fE j) k) (fU j) (fM j) s0 (fL j) vu vu vu (by omega) hK hP2 (by omega) hs2 ⟨y2, by omega⟩ ⟨y1.2.2.1.1, by have q : s0.2.2.1 + (if qlp (fL j) (fE j) k < (fL j).length then qlp (fL j) (fE j) k + 1 else (fL j).length) ≤ w := y5; omega⟩ y4 (⟨by rw [f2.2 45 (by decide)]; exact a1.1, qA_o a1.2 (f2.1 67 (by decide) (by decide))⟩) woj.1 (by rw [f2.2 42 (by decide)]; exact a3.2.1) (by rw [f2.2 43 (by decide)]; exact a4) aM
    have g3 : qfr qlA qlJ (zm S) m3 := qfr_t' g2 (B := [71, 72, 73, 74, 75, 76, 77, 78, 79, 80]) (K := [53]) f3 (by decide) (by decide)
    have hz : qZ w t s (fL j) (fE j) (fA j) = qZ1 s0 (fL j) (qlp (fL j) (fE j) k) := by unfold qZ; rw [hr]
    have hpr : (qZ1 s0 (fL j) (qlp (fL j) (fE j) k)).2.1 = s0.2.1 := by
      unfold qZ1
      split <;> rfl
    have keep : ∀ x, 73 ≤ x → x ≤ 80 → ∀ i, i ≠ (j : Int) → m3 x i = m x i := fun x x1 x2 i hi => by
      rw [qo3 x x1 x2 i hi, f2.1 x (by omega) (by simp only [List.mem_cons, List.not_mem_nil, or_false]; omega), f1.1 x (by omega) (by simp only [List.mem_cons, List.not_mem_nil, or_false]; omega)]
    obtain ⟨m', r, c1, c2, c3, c4⟩ := ih (j + 1) m3 vu vu vu vu vu (by omega) (by rw [hzn, hz]; exact hs3) (fun i hi2 => by
      by_cases ci : i = j
      · rw [ci, hp0]
        exact qi3
      · exact qZi_e (hi i (by omega)) fun x x1 x2 => keep x x1 x2 i (by omega)) g3
    refine ⟨m', ?_, c1, c2, by rw [c3, f3.2 50 (by decide), f2.2 50 (by decide), f1.2 50 (by decide)], by rw [c4, f3.2 51 (by decide), f2.2 51 (by decide), f1.2 51 (by decide)]⟩
    rw [hzn, hz, hpr] at r
    have r : zF_265 e 67 [vr 37, vi b, vi w, vi (t - 1), vi s0.2.1, vi (qZ1 s0 (fL j) (qlp (fL j) (fE j) k)).2.2.1, vi ((j : Int) + 1), vu, vu, vu, vu, vu] [] (qW S m3) = some (.inl none, qW S m') := r
    have r2 : zF_265 e 129 [vr 37, vi b, vi w, vi (t - 1), vi s.2.1, vu, vi (j : Int), vi (fA j), vi (s.2.2.1 + 1), vi ((fL j).length : Nat), vu, vu] [vi ((fE j).length : Nat)] (qW S m1) = zF_265 e 245 [vr 37, vi b, vi w, vi (t - 1), vi s0.2.1, vu, vi (j : Int), vu, vi s0.2.2.1, vi (qlp (fL j) (fE j) k), vi k, vu] [] (qW S m2) := r2
    have p22 := P_37_22 hPm
    have p29 := P_37_29 hP1
    have z1 : z32 (80 * b) = 80 * b := q32 (by omega)
    have z2 : z32 (80 * b + (j : Int)) = 80 * b + j := q32 (by omega)
    have z3 : z32 (s.2.2.1 + 1) = s.2.2.1 + 1 := q32 (by have := zk0.2.2.1; omega)
    rw [← r, ← r3, ← r2, b265_67]
    by_cases cp : p = 0
    · rw [if_pos cp] at el
      rw [el]
      have a5 : m1 37 38 = 0 := by rw [a5, cp]; rfl
      simp (config := { maxSteps := 2000000 }) (disch := first | omega | (simp only [K_37 hK, K_54 hK, K_61 hK, p22, p29, z1, z2, qkW, qmW, true_and, and_true, or_self, true_or, or_true, and_self]; done) | (simp only [K_37 hK, K_54 hK, K_61 hK, p22, p29, z1, z2, qkW, qmW, true_and, and_true, or_self, true_or, or_true, and_self]; omega)) only [b265_78, b265_85, b265_101, b265_118, qcall_l, qcall_r, qretn_l, qJ_s, qJ_n, qV0, qEx, ↓qif0, ↓zchk_pos, ↓reduceIte, qput, qWW, qmW, qkW, qnW, K_37 hK, p22, p29, m54, if_pos (show (j : Int) < (J : Int) by omega), r1, z1, z2, w3, z3, a5, a1.1]
      rfl
    · rw [if_neg cp] at el
      rw [el]
      have rb := r_bits e p (qW S m1) (by omega) plt
      simp (config := { maxSteps := 2000000 }) (disch := first | omega | (simp only [K_37 hK, K_54 hK, K_61 hK, p22, p29, z1, z2, qkW, qmW, true_and, and_true, or_self, true_or, or_true, and_self]; done) | (simp only [K_37 hK, K_54 hK, K_61 hK, p22, p29, z1, z2, qkW, qmW, true_and, and_true, or_self, true_or, or_true, and_self]; omega)) only [b265_78, b265_85, b265_101, b265_122, qcall_l, qcall_r, qretn_l, qJ_s, qJ_n, qV0, qEx, ↓qif0, ↓zchk_pos, ↓reduceIte, qput, qWW, qmW, qkW, qnW, K_37 hK, p22, p29, m54, if_pos (show (j : Int) < (J : Int) by omega), r1, z1, z2, w3, z3, a5, if_neg (show ¬ (p : Int) = 0 by omega), a1.1, rb]
theorem r_lays (d : Nat) (S : zS) (b w t : Int) (J : Nat) (fL fE : Nat → List Int) (fA fU fM : Nat → Int) (h : 10 ≤ d) (hK : qK S) (hP : qP (zm S)) (hd : 0 ≤ zm S 37 12 ∧ zm S 37 12 ≤ 12) (hb : 0 ≤ b ∧ b < 4) (h54 : zm S 54 b = (J : Int)) (h51 : zm S 51 b = w) (h52 : zm S 52 b = t) (hJ : J ≤ 80) (hw : 18 ≤ w ∧ w ≤ 40) (ht : 3 ≤ t ∧ t ≤ 25)
    (hwd : ∀ j : Nat, j < J → qWdo (zm S) b j (fL j) (fE j) (fA j) (fU j) (fM j)) (h0 : 0 < J → fA 0 = 1) (hc : zm S 37 50 = b → zm S 37 51 = (J : Int) → qZc (zm S) w t fL fE fA fU fM J) :
    ∃ m', zD d 265 [vr 37, vi b] S = some (.inl none, qW S m') ∧ qZc m' w t fL fE fA fU fM J ∧ m' 37 50 = b ∧ m' 37 51 = (J : Int) ∧ qfr qlA qlJ (zm S) m' := by
  obtain ⟨e, rfl, he⟩ := qd h
  have p22 := P_37_22 hP
  have go : ∃ m', zF_265 e 22 [vr 37, vi b, vu, vu, vu, vu, vu, vu, vu, vu, vu, vu] [] S = some (.inl none, qW S m') ∧ qZc m' w t fL fE fA fU fM J ∧ m' 37 50 = b ∧ m' 37 51 = (J : Int) ∧ qfr qlA qlJ (zm S) m' := by
    obtain ⟨M1, e1⟩ : ∃ M1, qu (zm S) 37 50 b = M1 := ⟨_, rfl⟩
    have q22 : M1 37 22 = 54 := by rw [← e1, qu_i _ _ _ _ _ (by decide), p22]
    have q54 : M1 54 b = (J : Int) := by rw [← e1, qu_o _ _ _ _ _ (by decide), h54]
    obtain ⟨M2, e2⟩ : ∃ M2, qu M1 37 51 (J : Int) = M2 := ⟨_, rfl⟩
    obtain ⟨M3, e3⟩ : ∃ M3, qu M2 37 53 0 = M3 := ⟨_, rfl⟩
    have f3 : qfr qlA qlJ (zm S) M3 := by
      rw [← e3, ← e2, ← e1]
      exact qfr_t' (qfr_t' (qfr_j _ 50 _ (by decide)) (qfr_j _ 51 _ (by decide)) (fun _ h => h) fun _ h => h) (qfr_j _ 53 _ (by decide)) (fun _ h => h) fun _ h => h
    have hP3 : qP M3 := qP_fr hP f3 (by decide)
    have p19 := P_37_19 hP3
    have p20 := P_37_20 hP3
    have q51 : M3 51 b = w := by rw [f3.1 51 (by decide) (by decide), h51]
    have q52 : M3 52 b = t := by rw [f3.1 52 (by decide) (by decide), h52]
    have z1 : z32 (t - 1) = t - 1 := q32 (by omega)
    have v50 : M3 37 50 = b := by rw [← e3, qu_i _ _ _ _ _ (by decide), ← e2, qu_i _ _ _ _ _ (by decide), ← e1, qu_s]
    have v51 : M3 37 51 = (J : Int) := by rw [← e3, qu_i _ _ _ _ _ (by decide), ← e2, qu_s]
    have v53 : M3 37 53 = 0 := by rw [← e3, qu_s]
    obtain ⟨m', r, c1, c2, c3, c4⟩ := r_laysRun e S b w t J fL fE fA fU fM he hK hP hd hb h54 hJ hw ht hwd h0 J 0 M3 vu vu vu vu vu (by omega) ⟨v53, fun l c l1 l2 => by have l2 : l < 0 := l2; omega, fun l l1 l2 => by have l2 : l < 0 := l2; omega⟩ (fun i hi => by omega) f3
    have r : zF_265 e 67 [vr 37, vi b, vi w, vi (t - 1), vi 1, vi 0, vi 0, vu, vu, vu, vu, vu] [] (qW S M3) = some (.inl none, qW S m') := r
    refine ⟨m', ?_, c1, by rw [c3, v50], by rw [c4, v51], c2⟩
    rw [← r]
    simp (config := { maxSteps := 2000000 }) (disch := first | omega | (simp only [K_37 hK, K_51 hK, K_52 hK, K_54 hK, q22, p19, p20, e1, e2, e3, q54, qkW, qmW, true_and, and_true, or_self, true_or, or_true, and_self]; done) | (simp only [K_37 hK, K_51 hK, K_52 hK, K_54 hK, q22, p19, p20, e1, e2, e3, q54, qkW, qmW, true_and, and_true, or_self, true_or, or_true, and_self]; omega)) only [b265_22, b265_38, b265_54, qcall_l, qcall_r, qretn_l, qJ_s, qJ_n, qV0, qEx, ↓qif0, ↓zchk_pos, ↓reduceIte, qput, qWW, qmW, qkW, qnW, K_37 hK, q22, p19, p20, e1, e2, e3, q54, q51, q52, z1]
  by_cases c1 : zm S 37 50 = b
  · by_cases c2 : zm S 37 51 = (J : Int)
    · refine ⟨zm S, ?_, hc c1 c2, c1, c2, qfr_r _ _ _⟩
      rw [qWS]
      simp (config := { maxSteps := 2000000 }) (disch := first | omega | (simp only [K_37 hK, K_54 hK, p22, qb_in, qkW, qmW, qnW, true_and, and_true, or_self, true_or, or_true, and_self]; done) | (simp only [K_37 hK, K_54 hK, p22, qb_in, qkW, qmW, qnW, true_and, and_true, or_self, true_or, or_true, and_self]; omega)) only [zD_265, b265_0, b265_8, b265_21, b265_22, b265_38, b265_54, b265_78, b265_85, b265_101, b265_118, b265_122, b265_129, b265_137, b265_143, b265_149, b265_155, b265_167, b265_173, b265_183, b265_189, b265_195, b265_206, b265_214, b265_221, b265_227, b265_233, b265_243, b265_245, b265_262, b265_280, b265_297, b265_317, b265_333, b265_336, b265_352, b265_368, b265_380, b265_391, b265_400, b265_406, qcall_l, qcall_r, qretn_l, qJ_s, qJ_n, qV0, qEx, ↓qif0, ↓zchk_pos, ↓reduceIte, qput, qWW, qmW, qkW, qnW, K_37 hK, K_54 hK, p22, if_pos c1, h54, if_pos c2]
    · obtain ⟨m', r, z⟩ := go
      refine ⟨m', ?_, z⟩
      rw [← r]
      simp (config := { maxSteps := 2000000 }) (disch := first | omega | (simp only [K_37 hK, K_54 hK, p22, qb_in, qkW, qmW, qnW, true_and, and_true, or_self, true_or, or_true, and_self]; done) | (simp only [K_37 hK, K_54 hK, p22, qb_in, qkW, qmW, qnW, true_and, and_true, or_self, true_or, or_true, and_self]; omega)) only [zD_265, b265_0, b265_8, b265_21, b265_38, b265_54, b265_78, b265_85, b265_101, b265_118, b265_122, b265_129, b265_137, b265_143, b265_149, b265_155, b265_167, b265_173, b265_183, b265_189, b265_195, b265_206, b265_214, b265_221, b265_227, b265_233, b265_243, b265_245, b265_262, b265_280, b265_297, b265_317, b265_333, b265_336, b265_352, b265_368, b265_380, b265_391, b265_400, b265_406, qcall_l, qcall_r, qretn_l, qJ_s, qJ_n, qV0, qEx, ↓qif0, ↓zchk_pos, ↓reduceIte, qput, qWW, qmW, qkW, qnW, K_37 hK, K_54 hK, p22, if_pos c1, h54, if_neg c2]
  · obtain ⟨m', r, z⟩ := go
    refine ⟨m', ?_, z⟩
    rw [← r]
    simp (config := { maxSteps := 2000000 }) (disch := first | omega | (simp only [K_37 hK, qb_in, qkW, qmW, qnW, true_and, and_true, or_self, true_or, or_true, and_self]; done) | (simp only [K_37 hK, qb_in, qkW, qmW, qnW, true_and, and_true, or_self, true_or, or_true, and_self]; omega)) only [zD_265, b265_0, b265_8, b265_21, b265_38, b265_54, b265_78, b265_85, b265_101, b265_118, b265_122, b265_129, b265_137, b265_143, b265_149, b265_155, b265_167, b265_173, b265_183, b265_189, b265_195, b265_206, b265_214, b265_221, b265_227, b265_233, b265_243, b265_245, b265_262, b265_280, b265_297, b265_317, b265_333, b265_336, b265_352, b265_368, b265_380, b265_391, b265_400, b265_406, qcall_l, qcall_r, qretn_l, qJ_s, qJ_n, qV0, qEx, ↓qif0, ↓zchk_pos, ↓reduceIte, qput, qWW, qmW, qkW, qnW, K_37 hK, if_neg c1]
