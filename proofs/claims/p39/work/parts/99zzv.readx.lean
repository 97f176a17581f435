/-! Felt cells are read as a word: the class, all of it. -/
theorem qSq_u2 {m : Int → Int → Int} {a b : Int} {L : List Int} {st dg bg mk : Int} (h : qSq m a b L st dg bg mk) (n : a ≠ b) (v : Int) : qSq (qu m a 2 v) a b L v dg bg mk := by
  obtain ⟨p0, p1, p2, p3, p4, p5, p6⟩ := h
  exact ⟨by rw [qu_i _ _ _ _ _ (by decide), p0], by rw [qu_i _ _ _ _ _ (by decide), p1], qu_s _ _ _ _, by rw [qu_i _ _ _ _ _ (by decide), p3], by rw [qu_i _ _ _ _ _ (by decide), p4], by rw [qu_i _ _ _ _ _ (by decide), p5], qA_o p6 (qu_o _ _ _ _ _ (Ne.symm n))⟩
theorem qSq_u4 {m : Int → Int → Int} {a b : Int} {L : List Int} {st dg bg mk : Int} (h : qSq m a b L st dg bg mk) (n : a ≠ b) (v : Int) : qSq (qu m a 4 v) a b L st dg v mk := by
  obtain ⟨p0, p1, p2, p3, p4, p5, p6⟩ := h
  exact ⟨by rw [qu_i _ _ _ _ _ (by decide), p0], by rw [qu_i _ _ _ _ _ (by decide), p1], by rw [qu_i _ _ _ _ _ (by decide), p2], by rw [qu_i _ _ _ _ _ (by decide), p3], qu_s _ _ _ _, by rw [qu_i _ _ _ _ _ (by decide), p5], qA_o p6 (qu_o _ _ _ _ _ (Ne.symm n))⟩
theorem qSq_u5 {m : Int → Int → Int} {a b : Int} {L : List Int} {st dg bg mk : Int} (h : qSq m a b L st dg bg mk) (n : a ≠ b) (v : Int) : qSq (qu m a 5 v) a b L st dg bg v := by
  obtain ⟨p0, p1, p2, p3, p4, p5, p6⟩ := h
  exact ⟨by rw [qu_i _ _ _ _ _ (by decide), p0], by rw [qu_i _ _ _ _ _ (by decide), p1], by rw [qu_i _ _ _ _ _ (by decide), p2], by rw [qu_i _ _ _ _ _ (by decide), p3], by rw [qu_i _ _ _ _ _ (by decide), p4], qu_s _ _ _ _, qA_o p6 (qu_o _ _ _ _ _ (Ne.symm n))⟩
theorem qfs_u {a b : Int} (m : Int → Int → Int) (i v : Int) (h : i ≠ 0) : qfs a b m (qu m a i v) := ⟨fun x h1 _ => qu_o _ _ _ _ _ h1, qu_i _ _ _ _ _ (Ne.symm h)⟩
/-- all that a word's reading needs -/
def qRW (S : zS) (w b c sa sb mk con : Int) (L E : List Int) : Prop := qWk S w b c ∧ qWp (zm S) w b c L mk con E ∧ (0 < L.length ∧ L.length ≤ 16) ∧ qSk S sa sb
theorem qRW_p {S : zS} {w b c sa sb mk con : Int} {L E : List Int} (h : qRW S w b c sa sb mk con L E) {m : Int → Int → Int} (hf : qfs sa sb (zm S) m) : qWp m w b c L mk con E := by
  obtain ⟨⟨k1, k2, k3, -⟩, hp, -, s1, s2⟩ := h
  exact qWp_o hp (hf.1 w (qkne k1 s1 (by decide)) (qkne k1 s2 (by decide))) (hf.1 b (qkne k2 s1 (by decide)) (qkne k2 s2 (by decide))) (hf.1 c (qkne k3 s1 (by decide)) (qkne k3 s2 (by decide)))
theorem qRW_c {S : zS} {w b c sa sb mk con : Int} {L E : List Int} (h : qRW S w b c sa sb mk con L E) {m : Int → Int → Int} (hf : qfs sa sb (zm S) m) (e : Nat) (he : 1 ≤ e) (i : Int) : zD e 112 [vr w, vi i] (qW S m) = some (.inl (some (vi (if 0 ≤ i ∧ i < (L.length : Int) then qnth L i else -1))), qW S m) := s_wrCell e (qW S m) w b c mk con i L E he h.1 (qRW_p h hf) h.2.2.1.2
theorem s_readWA (e : Nat) (S : zS) (a g w b c sa sb mk con : Int) (L E : List Int) (he : 1 ≤ e) (hR : qRW S w b c sa sb mk con L E) (h0 : zm S sa 0 = sb) :
    ∃ m', zF_27 e 0 [vr a, vr w, vi g, vr sa, vu, vu] [] S = zF_27 e 32 [vr a, vr w, vi g, vr sa, vi (qys L), vi L.length] [] (qW S m') ∧ qfs sa sb (zm S) m' ∧ qSq m' sa sb [] (qys L) 0 0 0 := by
  have hR0 := hR
  obtain ⟨⟨k1, k2, k3, -⟩, hp, ⟨l0, l16⟩, s1, s2⟩ := hR
  have nab : sa ≠ sb := qkne s1 s2 (by decide)
  have cl := s_spClear e S sa sb (fun _ => 0) he s1
  obtain ⟨m0, hm0⟩ : ∃ m, qSp (zm S) sa sb 0 0 0 0 0 (fun _ => 0) = m := ⟨_, rfl⟩
  have f0 : qfs sa sb (zm S) m0 := by
    rw [← hm0]
    exact ⟨fun x h1 h2 => qSp_o _ _ _ _ _ _ _ _ _ x h1 h2, qSp_0 _ _ _ _ _ _ _ _ _⟩
  have q0 : qSq m0 sa sb [] 0 0 0 0 := by
    rw [← hm0]
    refine ⟨?_, ?_, ?_, ?_, ?_, ?_, qA_nil _ _⟩
    · rw [qSp_0, h0]
    all_goals unfold qSp; simp only [↓reduceIte, Int.reduceEq, List.length_nil]; try rfl
  rw [hm0] at cl
  have w1 : m0 w 1 = L.length := (qRW_p hR0 f0).2.2.1
  have cc := qRW_c hR0 f0 e he 0
  rw [if_pos ⟨Int.le_refl _, by omega⟩] at cc
  obtain ⟨x, hx⟩ : ∃ x, qnth L 0 = x := ⟨_, rfl⟩
  rw [hx] at cc
  by_cases c1 : x = 40
  · have e1 : qys L = 1 := by unfold qys; rw [hx, if_pos c1]
    refine ⟨qu m0 sa 2 1, ?_, qfs_t f0 (qfs_u m0 2 1 (by decide)), by rw [e1]; exact qSq_u2 q0 nab 1⟩
    rw [e1]
    simp (config := { maxSteps := 2000000 }) (disch := first | omega | (simp only [k1, s1, qb_in, qkW, qmW, qnW, true_and, and_true, or_self, true_or, or_true, and_self]; done) | (simp only [k1, s1, qb_in, qkW, qmW, qnW, true_and, and_true, or_self, true_or, or_true, and_self]; omega)) only [b27_0, b27_4, b27_19, b27_24, b27_40, b27_46, b27_51, b27_67, b27_76, b27_84, b27_87, b27_90, b27_99, b27_105, b27_111, b27_136, b27_147, b27_148, b27_161, b27_162, b27_173, i27, w27_111, qcall_l, qcall_r, qretn_l, qJ_s, qJ_n, qV0, qEx, ↓qif0, ↓zchk_pos, ↓reduceIte, qput, qWW, qmW, qkW, qnW, k1, s1, cl, cc, w1, if_pos c1, q32, Int.reduceLE, Int.reduceAdd, true_and, and_self]
  · have e1 : qys L = 0 := by unfold qys; rw [hx, if_neg c1]
    refine ⟨m0, ?_, f0, by rw [e1]; exact q0⟩
    rw [e1]
    simp (config := { maxSteps := 2000000 }) (disch := first | omega | (simp only [k1, s1, qb_in, qkW, qmW, qnW, true_and, and_true, or_self, true_or, or_true, and_self]; done) | (simp only [k1, s1, qb_in, qkW, qmW, qnW, true_and, and_true, or_self, true_or, or_true, and_self]; omega)) only [b27_0, b27_4, b27_19, b27_24, b27_40, b27_46, b27_51, b27_67, b27_76, b27_84, b27_87, b27_90, b27_99, b27_105, b27_111, b27_136, b27_147, b27_148, b27_161, b27_162, b27_173, i27, w27_111, qcall_l, qcall_r, qretn_l, qJ_s, qJ_n, qV0, qEx, ↓qif0, ↓zchk_pos, ↓reduceIte, qput, qWW, qmW, qkW, qnW, k1, s1, cl, cc, w1, if_neg c1]
theorem s_readWB (e : Nat) (S : zS) (a g w b c sa sb mk con : Int) (L E : List Int) (m : Int → Int → Int) (he : 1 ≤ e) (hR : qRW S w b c sa sb mk con L E) (hf : qfs sa sb (zm S) m) (hq : qSq m sa sb [] (qys L) 0 0 0) :
    ∃ m', zF_27 e 32 [vr a, vr w, vi g, vr sa, vi (qys L), vi L.length] [] (qW S m) = zF_27 e 67 [vr a, vr w, vi g, vr sa, vi (qyb L), vi L.length] [] (qW S m') ∧ qfs sa sb (zm S) m' ∧ qSq m' sa sb [] (qys L) 0 (qyg L) 0 := by
  have hR0 := hR
  obtain ⟨⟨k1, k2, k3, -⟩, hp, ⟨l0, l16⟩, s1, s2⟩ := hR
  have nab : sa ≠ sb := qkne s1 s2 (by decide)
  have r := qys_r L
  obtain ⟨s, hs⟩ : ∃ s, qys L = s := ⟨_, rfl⟩
  have c1 := qRW_c hR0 hf e he s
  have v4 : m sa 4 = 0 := hq.2.2.2.2.1
  have z1 : z32 (s + 1) = s + 1 := q32 (by omega)
  have z2 : z32 (s + 1 + 1) = s + 2 := by rw [q32 (by omega)]; omega
  unfold qyb qyg
  rw [hs] at r hq ⊢
  have i32 : ∀ i, (if 0 ≤ i ∧ i < (L.length : Int) then qnth L i else -1) = 32 ↔ (0 ≤ i ∧ i < L.length ∧ qnth L i = 32) := fun i => by
    by_cases q : 0 ≤ i ∧ i < (L.length : Int)
    · rw [if_pos q]
      exact ⟨fun z => ⟨q.1, q.2, z⟩, fun z => z.2.2⟩
    · rw [if_neg q]
      exact ⟨fun z => absurd z (by decide), fun z => absurd ⟨z.1, z.2.1⟩ q⟩
  rcases qyg1_r L s with ⟨a1, b1⟩ | ⟨a1, b1⟩
  · rw [a1, if_neg (by decide), Int.add_zero]
    refine ⟨m, ?_, hf, hq⟩
    have n1 : ¬ (if 0 ≤ s ∧ s < (L.length : Int) then qnth L s else -1) = 32 := fun q => b1 ((i32 s).mp q).2
    rw [b27_32]
    simp (config := { maxSteps := 2000000 }) (disch := first | omega | (simp only [k1, s1, qb_in, qkW, qmW, qnW, true_and, and_true, or_self, true_or, or_true, and_self]; done) | (simp only [k1, s1, qb_in, qkW, qmW, qnW, true_and, and_true, or_self, true_or, or_true, and_self]; omega)) only [b27_0, b27_4, b27_19, b27_24, b27_40, b27_46, b27_51, b27_76, b27_84, b27_87, b27_90, b27_99, b27_105, b27_111, b27_136, b27_147, b27_148, b27_161, b27_162, b27_173, i27, w27_111, qcall_l, qcall_r, qretn_l, qJ_s, qJ_n, qV0, qEx, ↓qif0, ↓zchk_pos, ↓reduceIte, qput, qWW, qmW, qkW, qnW, k1, s1, v4, c1, if_neg n1, Int.reduceLT]
  · rw [a1, if_pos rfl]
    have y1 : (if 0 ≤ s ∧ s < (L.length : Int) then qnth L s else -1) = 32 := (i32 s).mpr ⟨r.1, b1⟩
    have f1 := qfs_t hf (qfs_u (a := sa) (b := sb) m 4 1 (by decide))
    have q1 := qSq_u4 hq nab 1
    obtain ⟨m1, hm1⟩ : ∃ m1, qu m sa 4 1 = m1 := ⟨_, rfl⟩
    rw [hm1] at f1 q1
    have v5 : m1 sa 4 = 1 := q1.2.2.2.2.1
    have c2 := qRW_c hR0 f1 e he (s + 1)
    rcases qyg1_r L (s + 1) with ⟨a2, b2⟩ | ⟨a2, b2⟩
    · rw [a2, Int.add_zero]
      refine ⟨m1, ?_, f1, q1⟩
      have n1 : ¬ (if 0 ≤ s + 1 ∧ s + 1 < (L.length : Int) then qnth L (s + 1) else -1) = 32 := fun q => b2 ((i32 (s + 1)).mp q).2
      rw [b27_32]
      simp (config := { maxSteps := 2000000 }) (disch := first | omega | (simp only [k1, s1, qb_in, qkW, qmW, qnW, true_and, and_true, or_self, true_or, or_true, and_self]; done) | (simp only [k1, s1, qb_in, qkW, qmW, qnW, true_and, and_true, or_self, true_or, or_true, and_self]; omega)) only [b27_0, b27_4, b27_19, b27_24, b27_40, b27_46, b27_51, b27_76, b27_84, b27_87, b27_90, b27_99, b27_105, b27_111, b27_136, b27_147, b27_148, b27_161, b27_162, b27_173, i27, w27_111, qcall_l, qcall_r, qretn_l, qJ_s, qJ_n, qV0, qEx, ↓qif0, ↓zchk_pos, ↓reduceIte, qput, qWW, qmW, qkW, qnW, k1, s1, v4, c1, if_pos y1, z1, hm1, v5, c2, if_neg n1, Int.reduceLT, Int.reduceAdd, q32]
      rw [b27_32]
      simp (config := { maxSteps := 2000000 }) (disch := first | omega | (simp only [k1, s1, qb_in, qkW, qmW, qnW, true_and, and_true, or_self, true_or, or_true, and_self]; done) | (simp only [k1, s1, qb_in, qkW, qmW, qnW, true_and, and_true, or_self, true_or, or_true, and_self]; omega)) only [b27_0, b27_4, b27_19, b27_24, b27_40, b27_46, b27_51, b27_76, b27_84, b27_87, b27_90, b27_99, b27_105, b27_111, b27_136, b27_147, b27_148, b27_161, b27_162, b27_173, i27, w27_111, qcall_l, qcall_r, qretn_l, qJ_s, qJ_n, qV0, qEx, ↓qif0, ↓zchk_pos, ↓reduceIte, qput, qWW, qmW, qkW, qnW, k1, s1, v5, c2, if_neg n1, Int.reduceLT]
    · rw [a2]
      have y2 : (if 0 ≤ s + 1 ∧ s + 1 < (L.length : Int) then qnth L (s + 1) else -1) = 32 := (i32 (s + 1)).mpr ⟨by omega, b2⟩
      have f2 := qfs_t f1 (qfs_u (a := sa) (b := sb) m1 4 2 (by decide))
      have q2 := qSq_u4 q1 nab 2
      obtain ⟨m2, hm2⟩ : ∃ m2, qu m1 sa 4 2 = m2 := ⟨_, rfl⟩
      rw [hm2] at f2 q2
      have v6 : m2 sa 4 = 2 := q2.2.2.2.2.1
      refine ⟨m2, ?_, f2, q2⟩
      rw [b27_32]
      simp (config := { maxSteps := 2000000 }) (disch := first | omega | (simp only [k1, s1, qb_in, qkW, qmW, qnW, true_and, and_true, or_self, true_or, or_true, and_self]; done) | (simp only [k1, s1, qb_in, qkW, qmW, qnW, true_and, and_true, or_self, true_or, or_true, and_self]; omega)) only [b27_0, b27_4, b27_19, b27_24, b27_40, b27_46, b27_51, b27_76, b27_84, b27_87, b27_90, b27_99, b27_105, b27_111, b27_136, b27_147, b27_148, b27_161, b27_162, b27_173, i27, w27_111, qcall_l, qcall_r, qretn_l, qJ_s, qJ_n, qV0, qEx, ↓qif0, ↓zchk_pos, ↓reduceIte, qput, qWW, qmW, qkW, qnW, k1, s1, v4, c1, if_pos y1, z1, hm1, v5, c2, if_pos y2, Int.reduceLT, Int.reduceAdd, q32]
      rw [b27_32]
      simp (config := { maxSteps := 2000000 }) (disch := first | omega | (simp only [k1, s1, qb_in, qkW, qmW, qnW, true_and, and_true, or_self, true_or, or_true, and_self]; done) | (simp only [k1, s1, qb_in, qkW, qmW, qnW, true_and, and_true, or_self, true_or, or_true, and_self]; omega)) only [b27_0, b27_4, b27_19, b27_24, b27_40, b27_46, b27_51, b27_76, b27_84, b27_87, b27_90, b27_99, b27_105, b27_111, b27_136, b27_147, b27_148, b27_161, b27_162, b27_173, i27, w27_111, qcall_l, qcall_r, qretn_l, qJ_s, qJ_n, qV0, qEx, ↓qif0, ↓zchk_pos, ↓reduceIte, qput, qWW, qmW, qkW, qnW, k1, s1, v5, c2, if_pos y2, z2, hm2, Int.reduceLT, Int.reduceAdd, q32]
      rw [b27_32]
      simp (config := { maxSteps := 2000000 }) (disch := first | omega | (simp only [k1, s1, qb_in, qkW, qmW, qnW, true_and, and_true, or_self, true_or, or_true, and_self]; done) | (simp only [k1, s1, qb_in, qkW, qmW, qnW, true_and, and_true, or_self, true_or, or_true, and_self]; omega)) only [b27_0, b27_4, b27_19, b27_24, b27_40, b27_46, b27_51, b27_76, b27_84, b27_87, b27_90, b27_99, b27_105, b27_111, b27_136, b27_147, b27_148, b27_161, b27_162, b27_173, i27, w27_111, qcall_l, qcall_r, qretn_l, qJ_s, qJ_n, qV0, qEx, ↓qif0, ↓zchk_pos, ↓reduceIte, qput, qWW, qmW, qkW, qnW, k1, s1, v6, Int.reduceLT]
theorem s_readWC (e : Nat) (S : zS) (a g w b c sa sb mk con : Int) (L E : List Int) (m : Int → Int → Int) (he : 1 ≤ e) (hR : qRW S w b c sa sb mk con L E) (hf : qfs sa sb (zm S) m) (hq : qSq m sa sb [] (qys L) 0 (qyg L) 0) :
    ∃ m', zF_27 e 67 [vr a, vr w, vi g, vr sa, vi (qyb L), vi L.length] [] (qW S m) = zF_27 e 105 [vr a, vr w, vi g, vr sa, vi (qyb L), vi (qye L)] [] (qW S m') ∧ qfs sa sb (zm S) m' ∧ qSq m' sa sb [] (qys L) 0 (qyg L) (if qym L = 1 then qnth L (L.length - 1) else 0) := by
  have hR0 := hR
  obtain ⟨⟨k1, k2, k3, -⟩, hp, ⟨l0, l16⟩, s1, s2⟩ := hR
  have nab : sa ≠ sb := qkne s1 s2 (by decide)
  have r1 := qys_r L
  have r2 := qyg_r L (by omega)
  have hbb : qys L + qyg L = qyb L := rfl
  obtain ⟨B, hB⟩ : ∃ B, qyb L = B := ⟨_, rfl⟩
  rw [hB] at hbb
  have c1 := qRW_c hR0 hf e he (L.length - 1)
  rw [if_pos (by omega)] at c1
  have z1 : z32 ((L.length : Int) - B) = L.length - B := q32 (by omega)
  have z2 : z32 ((L.length : Int) - 1) = L.length - 1 := q32 (by omega)
  have z3 : z32 ((L.length : Int) + (-1)) = L.length - 1 := q32 (by omega)
  have mc := s_isMarkCell e (qW S m) (qnth L (L.length - 1)) he
  have ye : qye L = L.length - qym L := rfl
  have ym := qym_r L
  rw [hB] at ym ⊢
  obtain ⟨x, hx⟩ : ∃ x, qnth L (L.length - 1) = x := ⟨_, rfl⟩
  rw [hx] at c1 mc ym ⊢
  rcases ym with ⟨a1, b1, d1⟩ | ⟨a1, b1⟩
  · rw [ye, a1, if_pos rfl]
    rw [qb_p d1] at mc
    refine ⟨qu m sa 5 x, ?_, qfs_t hf (qfs_u m 5 x (by decide)), qSq_u5 hq nab x⟩
    rw [b27_67]
    simp (config := { maxSteps := 2000000 }) (disch := first | omega | (simp only [k1, s1, qb_in, qkW, qmW, qnW, true_and, and_true, or_self, true_or, or_true, and_self]; done) | (simp only [k1, s1, qb_in, qkW, qmW, qnW, true_and, and_true, or_self, true_or, or_true, and_self]; omega)) only [b27_0, b27_4, b27_19, b27_24, b27_40, b27_46, b27_51, b27_67, b27_76, b27_84, b27_87, b27_90, b27_99, b27_111, b27_136, b27_147, b27_148, b27_161, b27_162, b27_173, i27, w27_111, qcall_l, qcall_r, qretn_l, qJ_s, qJ_n, qV0, qEx, ↓qif0, ↓zchk_pos, ↓reduceIte, qput, qWW, qmW, qkW, qnW, k1, s1, z1, if_pos b1, z2, c1, mc, z3, Int.reduceEq]
  · rw [ye, a1, if_neg (by decide), Int.sub_zero]
    refine ⟨m, ?_, hf, hq⟩
    rw [b27_67]
    by_cases d0 : 1 < (L.length : Int) - B
    · rw [qb_n (fun q => b1 ⟨d0, q⟩)] at mc
      simp (config := { maxSteps := 2000000 }) (disch := first | omega | (simp only [k1, s1, qb_in, qkW, qmW, qnW, true_and, and_true, or_self, true_or, or_true, and_self]; done) | (simp only [k1, s1, qb_in, qkW, qmW, qnW, true_and, and_true, or_self, true_or, or_true, and_self]; omega)) only [b27_0, b27_4, b27_19, b27_24, b27_40, b27_46, b27_51, b27_67, b27_76, b27_84, b27_87, b27_90, b27_99, b27_111, b27_136, b27_147, b27_148, b27_161, b27_162, b27_173, i27, w27_111, qcall_l, qcall_r, qretn_l, qJ_s, qJ_n, qV0, qEx, ↓qif0, ↓zchk_pos, ↓reduceIte, qput, qWW, qmW, qkW, qnW, k1, s1, z1, if_pos d0, z2, c1, mc]
    · simp (config := { maxSteps := 2000000 }) (disch := first | omega | (simp only [k1, s1, qb_in, qkW, qmW, qnW, true_and, and_true, or_self, true_or, or_true, and_self]; done) | (simp only [k1, s1, qb_in, qkW, qmW, qnW, true_and, and_true, or_self, true_or, or_true, and_self]; omega)) only [b27_0, b27_4, b27_19, b27_24, b27_40, b27_46, b27_51, b27_67, b27_76, b27_84, b27_87, b27_90, b27_99, b27_111, b27_136, b27_147, b27_148, b27_161, b27_162, b27_173, i27, w27_111, qcall_l, qcall_r, qretn_l, qJ_s, qJ_n, qV0, qEx, ↓qif0, ↓zchk_pos, ↓reduceIte, qput, qWW, qmW, qkW, qnW, k1, s1, z1, if_neg d0]
theorem s_readWord (d : Nat) (S : zS) (a N g w b c sa sb mk con : Int) (T : Int → Int → Int) (L E : List Int) (h : 8 ≤ d) (hK : qK S) (hL : qLt (zm S)) (ha : qCo S a N T) (hT : qTok T N) (hR : qRW S w b c sa sb mk con L E) (h0 : zm S sa 0 = sb) :
    ∃ m' v, zD d 27 [vr a, vr w, vi g, vr sa] S = some (.inl (some (vi v)), qW S m') ∧ qfs sa sb (zm S) m' ∧ ((v = 1 ∧ ∃ K, qyK T N g L K ∧ K.length ≤ 10 ∧ qSq m' sa sb K (qys L) (if qyh L = 60 then 1 else 0) (qyg L) (if qym L = 1 then qnth L (L.length - 1) else 0)) ∨ (v = 0 ∧ ∀ K, qyK T N g L K → 10 < K.length)) := by
  obtain ⟨e, rfl, he⟩ := qd h
  have hR0 := hR
  obtain ⟨hk, hp, ⟨l0, l16⟩, s1, s2⟩ := hR
  have k1 := hk.1
  obtain ⟨mA, rA, fA, qA⟩ := s_readWA e S a g w b c sa sb mk con L E (by omega) hR0 h0
  obtain ⟨mB, rB, fB, qB⟩ := s_readWB e S a g w b c sa sb mk con L E mA (by omega) hR0 fA qA
  obtain ⟨mC, rC, fC, qC⟩ := s_readWC e S a g w b c sa sb mk con L E mB (by omega) hR0 fB qB
  have st : zD (e + 1) 27 [vr a, vr w, vi g, vr sa] S = zF_27 e 105 [vr a, vr w, vi g, vr sa, vi (qyb L), vi (qye L)] [] (qW S mC) := by
    rw [← rC, ← rB, ← rA]
    rfl
  have r1 := qys_r L
  have r2 := qyg_r L (by omega)
  have hbb : qys L + qyg L = qyb L := rfl
  have ye : qye L = L.length - qym L := rfl
  have ym := qym_r L
  have cc := qRW_c hR0 fC e (by omega) (qyb L)
  obtain ⟨q0, q1, q2, q3, q4, q5, q6⟩ := qC
  have e2 : mC 2 = zm S 2 := fC.1 2 (qkne (K_2 hK) s1 (by decide)) (qkne (K_2 hK) s2 (by decide))
  have ha' : qCo (qW S mC) a N T := qCo_k ha fun x hx => fC.1 x (fun q => by rw [q, s1] at hx; revert hx; decide) (fun q => by rw [q, s2] at hx; revert hx; decide)
  have hL' : qLt (zm (qW S mC)) := fun q hq => by rw [qmW, e2]; exact hL q hq
  have a1 := ha.1
  obtain ⟨B, hB⟩ : ∃ B, qyb L = B := ⟨_, rfl⟩
  obtain ⟨n', hn'⟩ : ∃ x, qye L = x := ⟨_, rfl⟩
  obtain ⟨M, hM⟩ : ∃ x, (if qym L = 1 then qnth L (L.length - 1) else 0) = x := ⟨_, rfl⟩
  rw [hM] at q5 ⊢
  have z1 : z32 (B + 1) = B + 1 := q32 (by omega)
  have Bn : B ≤ n' ∧ n' ≤ L.length ∧ (B < L.length → B + 1 ≤ n') := by
    rw [← hn', ye]
    rcases ym with ⟨ym, ym2, -⟩ | ⟨ym, -⟩ <;> omega
  unfold qyK
  rw [hB, hn'] at st ⊢
  rw [hB] at cc
  rw [st, b27_105]
  clear st rA rB rC
  by_cases c60 : qyh L = 60
  · rw [if_pos c60]
    have Bl : B < L.length := by
      by_cases q : qyb L < L.length
      · omega
      · unfold qyh at c60; rw [if_neg q] at c60; exact absurd c60 (by decide)
    have hv : qnth L B = 60 := by
      unfold qyh at c60
      rw [hB, if_pos Bl] at c60
      exact c60
    rw [if_pos ⟨by omega, Bl⟩, hv] at cc
    obtain ⟨m', v, r, f, p⟩ := s_readDigits e (qW S mC) w b c (B + 1) n' sa sb mk con (qys L) 0 (qyg L) M L E (by omega) hK hL' hk (qRW_p hR0 fC) ⟨by omega, Bn.2.2 Bl, Bn.2.1, l16⟩ ⟨s1, s2⟩ ⟨q0, q1, q2, q3, q4, q5, q6⟩
    refine ⟨m', v, ?_, qfs_t fC f, ?_⟩
    · rcases p with ⟨rfl, -⟩ | ⟨rfl, -⟩ <;> simp (config := { maxSteps := 2000000 }) (disch := first | omega | (simp only [k1, a1, qb_in, qkW, qmW, qnW, true_and, and_true, or_self, true_or, or_true, and_self]; done) | (simp only [k1, a1, qb_in, qkW, qmW, qnW, true_and, and_true, or_self, true_or, or_true, and_self]; omega)) only [b27_0, b27_4, b27_19, b27_24, b27_40, b27_46, b27_51, b27_76, b27_84, b27_87, b27_90, b27_99, b27_105, b27_111, b27_136, b27_147, b27_148, b27_161, b27_162, b27_173, i27, w27_111, qcall_l, qcall_r, qretn_l, qJ_s, qJ_n, qV0, qEx, ↓qif0, ↓zchk_pos, ↓reduceIte, qput, qWW, qmW, qkW, qnW, k1, a1, cc, z1, r, Int.reduceEq, Int.reduceLE, true_and, and_self]
    · simp only [if_pos c60]
      rcases p with ⟨p1, p2, K, p3, p4, p5⟩ | ⟨p1, p2⟩
      · exact Or.inl ⟨p1, K, ⟨p2, p3⟩, p4, p5⟩
      · exact Or.inr ⟨p1, fun K hK2 => p2 hK2.1 K hK2.2⟩
  · by_cases c48 : qyh L = 48
    · rw [if_neg c60]
      have Bl : B < L.length := by
        by_cases q : qyb L < L.length
        · omega
        · unfold qyh at c48; rw [if_neg q] at c48; exact absurd c48 (by decide)
      have hv : qnth L B = 48 := by
        unfold qyh at c48
        rw [hB, if_pos Bl] at c48
        exact c48
      rw [if_pos ⟨by omega, Bl⟩, hv] at cc
      obtain ⟨m', v, r, f, p⟩ := s_readLetters e (qW S mC) a N (-1) w b c (B + 1) n' sa sb mk con (qys L) 0 (qyg L) M T L E (fun j => qnth L (B + 1 + j)) (by omega) hK hL' ha' hT hk (qRW_p hR0 fC) ⟨by omega, Bn.2.2 Bl, Bn.2.1, l16⟩ (fun j _ _ => rfl) ⟨s1, s2⟩ ⟨q0, q2, q3, q4, q5⟩
      refine ⟨m', v, ?_, qfs_t fC f, ?_⟩
      · rcases p with ⟨rfl, -⟩ | ⟨rfl, -⟩ <;> simp (config := { maxSteps := 2000000 }) (disch := first | omega | (simp only [k1, a1, qb_in, qkW, qmW, qnW, true_and, and_true, or_self, true_or, or_true, and_self]; done) | (simp only [k1, a1, qb_in, qkW, qmW, qnW, true_and, and_true, or_self, true_or, or_true, and_self]; omega)) only [b27_0, b27_4, b27_19, b27_24, b27_40, b27_46, b27_51, b27_76, b27_84, b27_87, b27_90, b27_99, b27_105, b27_111, b27_136, b27_147, b27_148, b27_161, b27_162, b27_173, i27, w27_111, qcall_l, qcall_r, qretn_l, qJ_s, qJ_n, qV0, qEx, ↓qif0, ↓zchk_pos, ↓reduceIte, qput, qWW, qmW, qkW, qnW, k1, a1, cc, z1, r, Int.reduceEq, Int.reduceLE, true_and, and_self]
      · simp only [if_neg c60, if_pos c48]
        rcases p with ⟨p1, p2, K, p3, p4, p5⟩ | ⟨p1, p2⟩
        · exact Or.inl ⟨p1, K, ⟨p2, p3⟩, p4, p5⟩
        · exact Or.inr ⟨p1, fun K hK2 => p2 hK2.1 K hK2.2⟩
    · rw [if_neg c60]
      have hv : (if 0 ≤ B ∧ B < (L.length : Int) then qnth L B else -1) ≠ 60 ∧ (if 0 ≤ B ∧ B < (L.length : Int) then qnth L B else -1) ≠ 48 := by
        unfold qyh at c60 c48
        rw [hB] at c60 c48
        by_cases q : B < L.length
        · rw [if_pos ⟨by omega, q⟩]
          rw [if_pos q] at c60 c48
          exact ⟨c60, c48⟩
        · rw [if_neg (fun z => q z.2)]
          exact ⟨by decide, by decide⟩
      obtain ⟨x, hx⟩ : ∃ x, (if 0 ≤ B ∧ B < (L.length : Int) then qnth L B else -1) = x := ⟨_, rfl⟩
      rw [hx] at cc hv
      obtain ⟨m', v, r, f, p⟩ := s_readLetters e (qW S mC) a N g w b c B n' sa sb mk con (qys L) 0 (qyg L) M T L E (fun j => qnth L (B + j)) (by omega) hK hL' ha' hT hk (qRW_p hR0 fC) ⟨by omega, Bn.1, Bn.2.1, l16⟩ (fun j _ _ => rfl) ⟨s1, s2⟩ ⟨q0, q2, q3, q4, q5⟩
      refine ⟨m', v, ?_, qfs_t fC f, ?_⟩
      · rcases p with ⟨rfl, -⟩ | ⟨rfl, -⟩ <;> simp (config := { maxSteps := 2000000 }) (disch := first | omega | (simp only [k1, a1, qb_in, qkW, qmW, qnW, true_and, and_true, or_self, true_or, or_true, and_self]; done) | (simp only [k1, a1, qb_in, qkW, qmW, qnW, true_and, and_true, or_self, true_or, or_true, and_self]; omega)) only [b27_0, b27_4, b27_19, b27_24, b27_40, b27_46, b27_51, b27_76, b27_84, b27_87, b27_90, b27_99, b27_105, b27_111, b27_136, b27_147, b27_148, b27_161, b27_162, b27_173, i27, w27_111, qcall_l, qcall_r, qretn_l, qJ_s, qJ_n, qV0, qEx, ↓qif0, ↓zchk_pos, ↓reduceIte, qput, qWW, qmW, qkW, qnW, k1, a1, cc, if_neg hv.1, if_neg hv.2, r, Int.reduceLE, true_and, and_self]
      · simp only [if_neg c60, if_neg c48]
        rcases p with ⟨p1, p2, K, p3, p4, p5⟩ | ⟨p1, p2⟩
        · exact Or.inl ⟨p1, K, ⟨p2, p3⟩, p4, p5⟩
        · exact Or.inr ⟨p1, fun K hK2 => p2 hK2.1 K hK2.2⟩
