/-! The reference's tree of the tape, by what waits. -/
def qfl : List (Nat × Int × qTree) → qTree → qTree
  | [], x => x
  | (w, _, l) :: fr, x => qOp w l (qfl fr x)
theorem qfl_a (fr : List (Nat × Int × qTree)) (w : Nat) (h : Int) (l x : qTree) : qfl (fr ++ [(w, h, l)]) x = qfl fr (qOp w l x) := by
  induction fr with
  | nil => rfl
  | cons a fr ih =>
    obtain ⟨w', h', l'⟩ := a
    show qOp w' l' (qfl (fr ++ [(w, h, l)]) x) = qOp w' l' (qfl fr (qOp w l x))
    rw [ih]
theorem qlast {α : Type} : ∀ (L : List α), L = [] ∨ ∃ K a, L = K ++ [a] := by
  intro L
  induction L with
  | nil => exact Or.inl rfl
  | cons a L ih =>
    rcases ih with rfl | ⟨K, b, rfl⟩
    · exact Or.inr ⟨[], a, rfl⟩
    · exact Or.inr ⟨a :: K, b, rfl⟩
def qhs (fr : List (Nat × Int × qTree)) : List Int := fr.map fun w => w.2.1
def qws (fr : List (Nat × Int × qTree)) : List Int := fr.map fun w => (w.1 : Int)
/-- what waits: joins and trees on their left, and the tree on the right -/
def qPe (m : Int → Int → Int) (t : Int → Int) (n : Int) (W H : List Int) (fr : List (Nat × Int × qTree)) (h : Int) (x : qTree) (bb : Int) : Prop := qTs m bb (H ++ qhs fr ++ [h]) (W ++ qws fr) ∧ (0 ≤ h ∧ h < bb) ∧ qrr m t n x h ∧ qwf x ∧ ∀ w ∈ fr, qjn (w.1 : Int) ∧ (0 ≤ w.2.1 ∧ w.2.1 < bb) ∧ qrr m t n w.2.2 w.2.1 ∧ qwf w.2.2
theorem r_pop (d : Nat) (S : zS) (t : Int → Int) (n : Int) (W H : List Int) (fr : List (Nat × Int × qTree)) (w : Nat) (h' : Int) (l : qTree) (h : Int) (x : qTree) (bb : Int) (m : Int → Int → Int) (hd : 2 ≤ d) (hK : qK S) (hP : qP m) (hp : qPe m t n W H (fr ++ [(w, h', l)]) h x bb) (hb : bb < 32) (hH : H.length + fr.length < 60) (hW : W.length + fr.length < 120) :
    ∃ m', zD d 239 [vr 37] (qW S m) = some (.inl none, qW S m') ∧ qPe m' t n W H fr bb (qOp w l x) (bb + 1) ∧ qFt bb m m' := by
  obtain ⟨p1, p2, p3, p4, p5⟩ := hp
  have hw := p5 (w, h', l) (by simp)
  simp only at hw
  have e1 : H ++ qhs (fr ++ [(w, h', l)]) ++ [h] = (H ++ qhs fr) ++ [h', h] := by
    unfold qhs
    rw [List.map_append]
    simp
  have e2 : W ++ qws (fr ++ [(w, h', l)]) = (W ++ qws fr) ++ [(w : Int)] := by
    unfold qws
    rw [List.map_append]
    simp
  rw [e1, e2] at p1
  obtain ⟨m', r, s1, u1, u2, u3, f⟩ := r_joins d (qW S m) bb w h' h (H ++ qhs fr) (W ++ qws fr) hd hK hP p1 (by omega) (by unfold qhs; rw [List.length_append, List.length_map]; exact hH) (by unfold qws; rw [List.length_append, List.length_map]; exact hW) (by omega)
  refine ⟨m', r, ⟨s1, by omega, ?_, ?_, fun v hv => ?_⟩, f⟩
  · rw [qrr_o, u1, u2, u3]
    exact ⟨rfl, hw.2.1, p2, qrr_f f.2 _ hw.2.2.2 _ hw.2.1.2 hw.2.2.1, qrr_f f.2 _ p4 _ p2.2 p3⟩
  · rw [qwf_o]
    exact ⟨hw.1, hw.2.2.2, p4⟩
  · have hv := p5 v (List.mem_append_left _ hv)
    exact ⟨hv.1, by omega, qrr_f f.2 _ hv.2.2.2 _ hv.2.1.2 hv.2.2.1, hv.2.2.2⟩
theorem qTs_t {m : Int → Int → Int} {b : Int} {H W : List Int} {c : Int} (h : qTs m b H (W ++ [c])) : m 37 90 = (W.length : Int) + 1 ∧ m 99 (W.length : Int) = c := by
  obtain ⟨-, -, h3, -, h5⟩ := h
  refine ⟨?_, qA_e h5⟩
  rw [h3, List.length_append]
  rfl
/-- the reference's loops end when nothing is joined any more -/
theorem r_flush (e : Nat) (S : zS) (t : Int → Int) (n p c be : Int) (W H : List Int) (he : 2 ≤ e) (hK : qK S) (hc : c ≠ 40) (hbe : be = qbd c) (hW : W = [] ∨ ∃ K a, W = K ++ [a] ∧ ¬ be < qbd a ∧ ¬ (qbd a = be ∧ be < 3)) : ∀ (k : Nat) (fr : List (Nat × Int × qTree)) (h : Int) (x : qTree) (bb : Int) (m : Int → Int → Int), fr.length = k → qP m → qPe m t n W H fr h x bb → bb + fr.length ≤ 32 → H.length + fr.length < 60 → W.length + fr.length < 120 → (∀ w ∈ fr, be < qbd (w.1 : Int) ∨ qbd (w.1 : Int) = be ∧ be < 3) →
    ∃ m' r, zF_240 e 135 [vr 37, vi p, vi c, vi be] [] (qW S m) = zF_240 e 196 [vr 37, vi p, vi c, vi be] [] (qW S m') ∧ qPe m' t n W H [] r (qfl fr x) (bb + fr.length) ∧ qFt bb m m' := by
  intro k
  induction k with
  | zero =>
    intro fr h x bb m hk hP hp hb hH hW2 hw
    have hf : fr = [] := List.eq_nil_of_length_eq_zero hk
    subst hf
    refine ⟨m, h, ?_, by rw [show bb + (([] : List (Nat × Int × qTree)).length : Int) = bb by simp]; exact hp, qFt_r _ _⟩
    rw [b240_135]
    obtain ⟨p1, -⟩ := hp
    have p1 : qTs m bb (H ++ [h]) W := by
      have q : H ++ qhs [] ++ [h] = H ++ [h] := by simp [qhs]
      have q2 : W ++ qws [] = W := by simp [qws]
      rw [q, q2] at p1
      exact p1
    rcases hW with rfl | ⟨K, a, rfl, h1, h2⟩
    · have g := p1.2.2.1
      simp (config := { maxSteps := 2000000 }) (disch := first | omega | (simp only [K_37 hK, qb_in, qkW, qmW, qnW, true_and, and_true, or_self, true_or, or_true, and_self]; done) | (simp only [K_37 hK, qb_in, qkW, qmW, qnW, true_and, and_true, or_self, true_or, or_true, and_self]; omega)) only [b240_0, b240_16, b240_25, b240_30, b240_35, b240_38, b240_45, b240_48, b240_51, b240_57, b240_67, b240_70, b240_74, b240_77, b240_85, b240_88, b240_110, b240_114, b240_117, b240_130, b240_134, b240_141, b240_148, b240_162, b240_166, b240_180, b240_184, b240_189, b240_193, b240_212, b240_216, b240_219, b240_229, b240_233, b240_236, qcall_l, qcall_r, qretn_l, qJ_s, qJ_n, qV0, qEx, ↓qif0, ↓zchk_pos, ↓reduceIte, qput, qWW, qmW, qkW, qnW, K_37 hK, if_neg hc, g, List.length_nil, Int.lt_irrefl, if_neg (show ¬ (0 : Int) < ((0 : Nat) : Int) by decide)]
    · obtain ⟨g1, g2⟩ := qTs_t p1
      have hKl : K.length < 120 := by
        rw [List.length_append] at hW2
        have : ([a] : List Int).length = 1 := rfl
        omega
      have bo := r_bindsOf e (qW S m) a (by omega)
      by_cases q : qbd a = be
      · have q2 : ¬ be < 3 := fun z => h2 ⟨q, z⟩
        simp (config := { maxSteps := 2000000 }) (disch := first | omega | (simp only [K_37 hK, K_99 hK, P_37_89 hP, P_37_89 hP, q32, g1, qb_in, qkW, qmW, qnW, true_and, and_true, or_self, true_or, or_true, and_self]; done) | (simp only [K_37 hK, K_99 hK, P_37_89 hP, P_37_89 hP, q32, g1, qb_in, qkW, qmW, qnW, true_and, and_true, or_self, true_or, or_true, and_self]; omega)) only [b240_0, b240_16, b240_25, b240_30, b240_35, b240_38, b240_45, b240_48, b240_51, b240_57, b240_67, b240_70, b240_74, b240_77, b240_85, b240_88, b240_110, b240_114, b240_117, b240_130, b240_134, b240_141, b240_148, b240_162, b240_166, b240_180, b240_184, b240_189, b240_193, b240_212, b240_216, b240_219, b240_229, b240_233, b240_236, qcall_l, qcall_r, qretn_l, qJ_s, qJ_n, qV0, qEx, ↓qif0, ↓zchk_pos, ↓reduceIte, qput, qWW, qmW, qkW, qnW, K_37 hK, K_99 hK, P_37_89 hP, P_37_89 hP, if_neg hc, g1, if_pos (show (0 : Int) < (K.length : Int) + 1 by omega), q32, show (K.length : Int) + 1 - 1 = K.length by omega, g2, bo, if_neg h1, if_pos q, if_neg q2]
      · simp (config := { maxSteps := 2000000 }) (disch := first | omega | (simp only [K_37 hK, K_99 hK, P_37_89 hP, P_37_89 hP, q32, g1, qb_in, qkW, qmW, qnW, true_and, and_true, or_self, true_or, or_true, and_self]; done) | (simp only [K_37 hK, K_99 hK, P_37_89 hP, P_37_89 hP, q32, g1, qb_in, qkW, qmW, qnW, true_and, and_true, or_self, true_or, or_true, and_self]; omega)) only [b240_0, b240_16, b240_25, b240_30, b240_35, b240_38, b240_45, b240_48, b240_51, b240_57, b240_67, b240_70, b240_74, b240_77, b240_85, b240_88, b240_110, b240_114, b240_117, b240_130, b240_134, b240_141, b240_148, b240_162, b240_166, b240_180, b240_184, b240_189, b240_193, b240_212, b240_216, b240_219, b240_229, b240_233, b240_236, qcall_l, qcall_r, qretn_l, qJ_s, qJ_n, qV0, qEx, ↓qif0, ↓zchk_pos, ↓reduceIte, qput, qWW, qmW, qkW, qnW, K_37 hK, K_99 hK, P_37_89 hP, P_37_89 hP, if_neg hc, g1, if_pos (show (0 : Int) < (K.length : Int) + 1 by omega), q32, show (K.length : Int) + 1 - 1 = K.length by omega, g2, bo, if_neg h1, if_neg q]
  | succ k ih =>
    intro fr h x bb m hk hP hp hb hH hW2 hw
    rcases qlast fr with rfl | ⟨fr', ⟨w, h', l⟩, rfl⟩
    · exact absurd hk (by simp)
    · have hl : (fr' ++ [(w, h', l)]).length = fr'.length + 1 := by rw [List.length_append]; rfl
      rw [hl] at hb hH hW2 hk
      have hww := hw (w, h', l) (by simp)
      simp only at hww
      obtain ⟨m1, r1, q1, f1⟩ := r_pop e S t n W H fr' w h' l h x bb m (by omega) hK hP hp (by omega) (by omega) (by omega)
      have hP1 := qP_fr hP f1.1 (by decide)
      obtain ⟨m2, r, r2, q2, f2⟩ := ih fr' bb (qOp w l x) (bb + 1) m1 (by omega) hP1 q1 (by omega) (by omega) (by omega) (fun v hv => hw v (List.mem_append_left _ hv))
      refine ⟨m2, r, ?_, ?_, qFt_t f1 f2 (by omega)⟩
      · obtain ⟨p1, -⟩ := hp
        have e2 : W ++ qws (fr' ++ [(w, h', l)]) = (W ++ qws fr') ++ [(w : Int)] := by
          unfold qws
          rw [List.map_append]
          simp
        rw [e2] at p1
        obtain ⟨g1, g2⟩ := qTs_t p1
        have hKl : (W ++ qws fr').length < 120 := by
          unfold qws
          rw [List.length_append, List.length_map]
          omega
        have bo := r_bindsOf e (qW S m) w (by omega)
        rw [b240_135, ← r2]
        generalize hL : ((W ++ qws fr').length : Int) = L at g1 g2
        have hL0 : 0 ≤ L ∧ L < 120 := by omega
        by_cases q : be < qbd (w : Int)
        · simp (config := { maxSteps := 2000000 }) (disch := first | omega | (simp only [K_37 hK, K_99 hK, P_37_89 hP, P_37_89 hP, q32, g1, qb_in, qkW, qmW, qnW, true_and, and_true, or_self, true_or, or_true, and_self]; done) | (simp only [K_37 hK, K_99 hK, P_37_89 hP, P_37_89 hP, q32, g1, qb_in, qkW, qmW, qnW, true_and, and_true, or_self, true_or, or_true, and_self]; omega)) only [b240_0, b240_16, b240_25, b240_30, b240_35, b240_38, b240_45, b240_48, b240_51, b240_57, b240_67, b240_70, b240_74, b240_77, b240_85, b240_88, b240_110, b240_114, b240_117, b240_130, b240_134, b240_141, b240_148, b240_162, b240_166, b240_180, b240_184, b240_189, b240_193, b240_212, b240_216, b240_219, b240_229, b240_233, b240_236, qcall_l, qcall_r, qretn_l, qJ_s, qJ_n, qV0, qEx, ↓qif0, ↓zchk_pos, ↓reduceIte, qput, qWW, qmW, qkW, qnW, K_37 hK, K_99 hK, P_37_89 hP, P_37_89 hP, if_neg hc, g1, if_pos (show (0 : Int) < L + 1 by omega), q32, show L + 1 - 1 = L by omega, g2, bo, if_pos q, r1]
        · have q' := hww.resolve_left q
          simp (config := { maxSteps := 2000000 }) (disch := first | omega | (simp only [K_37 hK, K_99 hK, P_37_89 hP, P_37_89 hP, q32, g1, qb_in, qkW, qmW, qnW, true_and, and_true, or_self, true_or, or_true, and_self]; done) | (simp only [K_37 hK, K_99 hK, P_37_89 hP, P_37_89 hP, q32, g1, qb_in, qkW, qmW, qnW, true_and, and_true, or_self, true_or, or_true, and_self]; omega)) only [b240_0, b240_16, b240_25, b240_30, b240_35, b240_38, b240_45, b240_48, b240_51, b240_57, b240_67, b240_70, b240_74, b240_77, b240_85, b240_88, b240_110, b240_114, b240_117, b240_130, b240_134, b240_141, b240_148, b240_162, b240_166, b240_180, b240_184, b240_189, b240_193, b240_212, b240_216, b240_219, b240_229, b240_233, b240_236, qcall_l, qcall_r, qretn_l, qJ_s, qJ_n, qV0, qEx, ↓qif0, ↓zchk_pos, ↓reduceIte, qput, qWW, qmW, qkW, qnW, K_37 hK, K_99 hK, P_37_89 hP, P_37_89 hP, if_neg hc, g1, if_pos (show (0 : Int) < L + 1 by omega), q32, show L + 1 - 1 = L by omega, g2, bo, if_neg q, if_pos q'.1, if_pos q'.2, r1]
      · rw [qfl_a, hl]
        rw [show bb + 1 + (fr'.length : Int) = bb + ((fr'.length + 1 : Nat) : Int) by omega] at q2
        exact q2
theorem r_flushB (e : Nat) (S : zS) (t : Int → Int) (n p : Int) (W H : List Int) (he : 2 ≤ e) (hK : qK S) : ∀ (k : Nat) (fr : List (Nat × Int × qTree)) (h : Int) (x : qTree) (bb : Int) (m : Int → Int → Int) (x2 x3 : zV), fr.length = k → qP m → qPe m t n (W ++ [40]) H fr h x bb → bb + fr.length ≤ 32 → H.length + fr.length < 60 → W.length + fr.length < 119 →
    ∃ m' r, zF_240 e 94 [vr 37, vi p, x2, x3] [] (qW S m) = zF_240 e 117 [vr 37, vi p, vu, vu] [] (qW S m') ∧ qPe m' t n (W ++ [40]) H [] r (qfl fr x) (bb + fr.length) ∧ qFt bb m m' := by
  intro k
  induction k with
  | zero =>
    intro fr h x bb m x2 x3 hk hP hp hb hH hW2
    have hf : fr = [] := List.eq_nil_of_length_eq_zero hk
    subst hf
    refine ⟨m, h, ?_, by rw [show bb + (([] : List (Nat × Int × qTree)).length : Int) = bb by simp]; exact hp, qFt_r _ _⟩
    rw [b240_94]
    obtain ⟨p1, -⟩ := hp
    have p1 : qTs m bb (H ++ [h]) (W ++ [40]) := by
      have q : H ++ qhs [] ++ [h] = H ++ [h] := by simp [qhs]
      have q2 : W ++ [40] ++ qws [] = W ++ [40] := by simp [qws]
      rw [q, q2] at p1
      exact p1
    obtain ⟨g1, g2⟩ := qTs_t p1
    have hWl : W.length < 119 := by simp at hW2; omega
    simp (config := { maxSteps := 2000000 }) (disch := first | omega | (simp only [K_37 hK, K_99 hK, P_37_89 hP, P_37_89 hP, q32, g1, qb_in, qkW, qmW, qnW, true_and, and_true, or_self, true_or, or_true, and_self]; done) | (simp only [K_37 hK, K_99 hK, P_37_89 hP, P_37_89 hP, q32, g1, qb_in, qkW, qmW, qnW, true_and, and_true, or_self, true_or, or_true, and_self]; omega)) only [b240_0, b240_16, b240_25, b240_30, b240_35, b240_38, b240_45, b240_48, b240_51, b240_57, b240_67, b240_70, b240_74, b240_77, b240_85, b240_88, b240_110, b240_114, b240_130, b240_134, b240_141, b240_148, b240_162, b240_166, b240_180, b240_184, b240_189, b240_193, b240_196, b240_212, b240_216, b240_219, b240_229, b240_233, b240_236, qcall_l, qcall_r, qretn_l, qJ_s, qJ_n, qV0, qEx, ↓qif0, ↓zchk_pos, ↓reduceIte, qput, qWW, qmW, qkW, qnW, K_37 hK, K_99 hK, P_37_89 hP, P_37_89 hP, g1, q32, show (W.length : Int) + 1 - 1 = W.length by omega, g2, Int.reduceEq]
  | succ k ih =>
    intro fr h x bb m x2 x3 hk hP hp hb hH hW2
    rcases qlast fr with rfl | ⟨fr', ⟨w, h', l⟩, rfl⟩
    · exact absurd hk (by simp)
    · have hl : (fr' ++ [(w, h', l)]).length = fr'.length + 1 := by rw [List.length_append]; rfl
      rw [hl] at hb hH hW2 hk
      have hww := (hp.2.2.2.2 (w, h', l) (by simp)).1
      simp only at hww
      have hW3 : (W ++ [40]).length = W.length + 1 := by rw [List.length_append]; rfl
      obtain ⟨m1, r1, q1, f1⟩ := r_pop e S t n (W ++ [40]) H fr' w h' l h x bb m (by omega) hK hP hp (by omega) (by omega) (by omega)
      have hP1 := qP_fr hP f1.1 (by decide)
      obtain ⟨m2, r, r2, q2, f2⟩ := ih fr' bb (qOp w l x) (bb + 1) m1 vu vu (by omega) hP1 q1 (by omega) (by omega) (by omega)
      refine ⟨m2, r, ?_, ?_, qFt_t f1 f2 (by omega)⟩
      · obtain ⟨p1, -⟩ := hp
        have e2 : W ++ [40] ++ qws (fr' ++ [(w, h', l)]) = (W ++ [40] ++ qws fr') ++ [(w : Int)] := by
          unfold qws
          rw [List.map_append]
          simp
        rw [e2] at p1
        obtain ⟨g1, g2⟩ := qTs_t p1
        have hKl : (W ++ [40] ++ qws fr').length < 120 := by
          unfold qws
          rw [List.length_append, List.length_map]
          omega
        rw [b240_94, ← r2]
        generalize hL : ((W ++ [40] ++ qws fr').length : Int) = L at g1 g2
        have hL0 : 0 ≤ L ∧ L < 120 := by omega
        simp (config := { maxSteps := 2000000 }) (disch := first | omega | (simp only [K_37 hK, K_99 hK, P_37_89 hP, P_37_89 hP, q32, g1, qb_in, qkW, qmW, qnW, true_and, and_true, or_self, true_or, or_true, and_self]; done) | (simp only [K_37 hK, K_99 hK, P_37_89 hP, P_37_89 hP, q32, g1, qb_in, qkW, qmW, qnW, true_and, and_true, or_self, true_or, or_true, and_self]; omega)) only [b240_0, b240_16, b240_25, b240_30, b240_35, b240_38, b240_45, b240_48, b240_51, b240_57, b240_67, b240_70, b240_74, b240_77, b240_85, b240_88, b240_110, b240_114, b240_130, b240_134, b240_141, b240_148, b240_162, b240_166, b240_180, b240_184, b240_189, b240_193, b240_196, b240_212, b240_216, b240_219, b240_229, b240_233, b240_236, qcall_l, qcall_r, qretn_l, qJ_s, qJ_n, qV0, qEx, ↓qif0, ↓zchk_pos, ↓reduceIte, qput, qWW, qmW, qkW, qnW, K_37 hK, K_99 hK, P_37_89 hP, P_37_89 hP, g1, q32, show L + 1 - 1 = L by omega, g2, if_neg (show ¬ (w : Int) = 40 by omega), r1]
      · rw [qfl_a, hl]
        rw [show bb + 1 + (fr'.length : Int) = bb + ((fr'.length + 1 : Nat) : Int) by omega] at q2
        exact q2
theorem r_flushE (e : Nat) (S : zS) (t : Int → Int) (n : Int) (he : 2 ≤ e) (hK : qK S) : ∀ (k : Nat) (fr : List (Nat × Int × qTree)) (h : Int) (x : qTree) (bb : Int) (m : Int → Int → Int) (x1 x2 x3 : zV), fr.length = k → qP m → qPe m t n [] [] fr h x bb → bb + fr.length ≤ 32 → fr.length < 60 →
    ∃ m' r, zF_240 e 222 [vr 37, x1, x2, x3] [] (qW S m) = some (.inl (some (vi r)), qW S m') ∧ qPe m' t n [] [] [] r (qfl fr x) (bb + fr.length) ∧ qFt bb m m' := by
  intro k
  induction k with
  | zero =>
    intro fr h x bb m x1 x2 x3 hk hP hp hb hH
    have hf : fr = [] := List.eq_nil_of_length_eq_zero hk
    subst hf
    refine ⟨m, h, ?_, by rw [show bb + (([] : List (Nat × Int × qTree)).length : Int) = bb by simp]; exact hp, qFt_r _ _⟩
    rw [b240_222]
    obtain ⟨p1, -⟩ := hp
    have p1 : qTs m bb [h] [] := p1
    have g1 : m 37 90 = 0 := p1.2.2.1
    have g2 : m 98 0 = h := p1.2.2.2.1 0 h rfl
    simp (config := { maxSteps := 2000000 }) (disch := first | omega | (simp only [K_37 hK, K_98 hK, P_37_87 hP, P_37_87 hP, qb_in, qkW, qmW, qnW, true_and, and_true, or_self, true_or, or_true, and_self]; done) | (simp only [K_37 hK, K_98 hK, P_37_87 hP, P_37_87 hP, qb_in, qkW, qmW, qnW, true_and, and_true, or_self, true_or, or_true, and_self]; omega)) only [b240_0, b240_16, b240_25, b240_30, b240_35, b240_38, b240_45, b240_48, b240_51, b240_57, b240_67, b240_70, b240_74, b240_77, b240_85, b240_88, b240_110, b240_114, b240_117, b240_130, b240_134, b240_141, b240_148, b240_162, b240_166, b240_180, b240_184, b240_189, b240_193, b240_196, b240_212, b240_216, b240_219, b240_229, b240_233, b240_236, qcall_l, qcall_r, qretn_l, qJ_s, qJ_n, qV0, qEx, ↓qif0, ↓zchk_pos, ↓reduceIte, qput, qWW, qmW, qkW, qnW, K_37 hK, K_98 hK, P_37_87 hP, P_37_87 hP, g1, g2, Int.lt_irrefl]
  | succ k ih =>
    intro fr h x bb m x1 x2 x3 hk hP hp hb hH
    rcases qlast fr with rfl | ⟨fr', ⟨w, h', l⟩, rfl⟩
    · exact absurd hk (by simp)
    · have hl : (fr' ++ [(w, h', l)]).length = fr'.length + 1 := by rw [List.length_append]; rfl
      rw [hl] at hb hH hk
      obtain ⟨m1, r1, q1, f1⟩ := r_pop e S t n [] [] fr' w h' l h x bb m (by omega) hK hP hp (by omega) (by simp; omega) (by simp; omega)
      have hP1 := qP_fr hP f1.1 (by decide)
      obtain ⟨m2, r, r2, q2, f2⟩ := ih fr' bb (qOp w l x) (bb + 1) m1 vu vu vu (by omega) hP1 q1 (by omega) (by omega)
      refine ⟨m2, r, ?_, ?_, qFt_t f1 f2 (by omega)⟩
      · obtain ⟨p1, -⟩ := hp
        have e2 : [] ++ qws (fr' ++ [(w, h', l)]) = qws fr' ++ [(w : Int)] := by
          unfold qws
          rw [List.map_append]
          simp
        rw [e2] at p1
        obtain ⟨g1, g2⟩ := qTs_t p1
        rw [b240_222, ← r2]
        simp (config := { maxSteps := 2000000 }) (disch := first | omega | (simp only [K_37 hK, qb_in, qkW, qmW, qnW, true_and, and_true, or_self, true_or, or_true, and_self]; done) | (simp only [K_37 hK, qb_in, qkW, qmW, qnW, true_and, and_true, or_self, true_or, or_true, and_self]; omega)) only [b240_0, b240_16, b240_25, b240_30, b240_35, b240_38, b240_45, b240_48, b240_51, b240_57, b240_67, b240_70, b240_74, b240_77, b240_85, b240_88, b240_110, b240_114, b240_117, b240_130, b240_134, b240_141, b240_148, b240_162, b240_166, b240_180, b240_184, b240_189, b240_193, b240_196, b240_212, b240_216, b240_219, b240_229, b240_233, b240_236, qcall_l, qcall_r, qretn_l, qJ_s, qJ_n, qV0, qEx, ↓qif0, ↓zchk_pos, ↓reduceIte, qput, qWW, qmW, qkW, qnW, K_37 hK, g1, if_pos (show (0 : Int) < ((qws fr').length : Int) + 1 by omega), r1]
      · rw [qfl_a, hl]
        rw [show bb + 1 + (fr'.length : Int) = bb + ((fr'.length + 1 : Nat) : Int) by omega] at q2
        exact q2
