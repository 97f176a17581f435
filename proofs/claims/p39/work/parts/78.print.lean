/-! The class writes a tree. -/
def qrk (o : Int) : Int := if o = 43 ∨ o = 45 then 0 else if o = 94 then 2 else 1
def qdc (d : Int) : Int := qlc (if d = 0 then 9 else d - 1)
def qdl (z : Int) : List Int := if z < 100 then [qdc (z % 10)] else if z < 1000 then [qdc (z / 10 % 10), qdc (z % 10)] else if z < 10000 then [qdc (z / 100 % 10), qdc (z / 10 % 10), qdc (z % 10)] else [qdc (z / 1000 % 10), qdc (z / 100 % 10), qdc (z / 10 % 10), qdc (z % 10)]
def qnb (fld o : Int) (x : qTree) (rt : Int) : Int := match x with
  | .tag k _ => if fld = 1 ∧ (k : Int) = 47 then 0 else if qrk k < qrk o ∨ qrk k = qrk o ∧ (rt = 1 ∧ qrk o < 2 ∨ rt = 0 ∧ ¬ qrk o < 2) then 1 else 0
  | _ => 0
theorem qnb_a (fld o z rt : Int) : qnb fld o (qAt z) rt = 0 := rfl
theorem qnb_o (fld o : Int) (k : Nat) (l r : qTree) (rt : Int) : qnb fld o (qOp k l r) rt = if fld = 1 ∧ (k : Int) = 47 then 0 else if qrk k < qrk o ∨ qrk k = qrk o ∧ (rt = 1 ∧ qrk o < 2 ∨ rt = 0 ∧ ¬ qrk o < 2) then 1 else 0 := rfl
def qcs (o : Int) : Int := if o = 43 then 22 else if o = 45 then 36 else if o = 46 then 20 else if o = 47 then 12 else 34
def qbk (b : Int) (L : List Int) : List Int := if b = 0 then L else [35] ++ L ++ [28]
def qpr (fld : Int) : qTree → List Int
  | .nest z .nil => if z < 0 then [qlc (-1 - z)] else 60 :: qdl z
  | .tag o (.append l r) => if fld = 1 ∧ (o : Int) = 47 then [55] ++ qpr fld l ++ [12] ++ qpr fld r ++ [62] else if fld = 1 ∧ (o : Int) = 94 then qbk (qnb fld o l 0) (qpr fld l) ++ [24] ++ qpr fld r ++ [16] else qbk (qnb fld o l 0) (qpr fld l) ++ [qcs o] ++ qbk (qnb fld o r 1) (qpr fld r)
  | _ => []
theorem qpr_a (fld z : Int) : qpr fld (qAt z) = if z < 0 then [qlc (-1 - z)] else 60 :: qdl z := rfl
theorem qpr_o (fld : Int) (o : Nat) (l r : qTree) : qpr fld (qOp o l r) = if fld = 1 ∧ (o : Int) = 47 then [55] ++ qpr fld l ++ [12] ++ qpr fld r ++ [62] else if fld = 1 ∧ (o : Int) = 94 then qbk (qnb fld o l 0) (qpr fld l) ++ [24] ++ qpr fld r ++ [16] else qbk (qnb fld o l 0) (qpr fld l) ++ [qcs o] ++ qbk (qnb fld o r 1) (qpr fld r) := rfl
theorem qbk_l (b : Int) (L : List Int) : (qbk b L).length ≤ L.length + 2 := by
  unfold qbk
  split
  · omega
  · simp
theorem qdl_l (z : Int) : (qdl z).length ≤ 4 := by
  unfold qdl
  repeat' split
  all_goals simp
theorem qpr_l (fld : Int) : ∀ x, qwf x → (qpr fld x).length ≤ 5 * qsz x := by
  refine q_ind (fun z _ => ?_) fun o l r _ _ _ il ir => ?_
  · rw [qpr_a, qsz_a]
    split
    · simp
    · rw [List.length_cons]
      have := qdl_l z
      omega
  · rw [qpr_o, qsz_o]
    have h1 := qbk_l (qnb fld o l 0) (qpr fld l)
    have h2 := qbk_l (qnb fld o r 1) (qpr fld r)
    split
    · simp only [List.length_append, List.length_cons, List.length_nil]
      omega
    · split
      · simp only [List.length_append, List.length_cons, List.length_nil]
        omega
      · simp only [List.length_append, List.length_cons, List.length_nil]
        omega
theorem qsz_1 : ∀ x, qwf x → 1 ≤ qsz x := q_ind (fun _ _ => Nat.le_refl _) fun o l r _ _ _ _ _ => by rw [qsz_o]; omega
def qCl (m : Int → Int → Int) (F : Int) (L : List Int) : Prop := m F 11 = L.length ∧ qA m (F + 6) L
def qFw (F : Int) (m m' : Int → Int → Int) : Prop := (∀ x, x ≠ F → x ≠ F + 6 → m' x = m x) ∧ ∀ j, j ≠ 11 → m' F j = m F j
theorem qFw_r (F : Int) (m : Int → Int → Int) : qFw F m m := ⟨fun _ _ _ => rfl, fun _ _ => rfl⟩
theorem qFw_t {F : Int} {m m1 m2 : Int → Int → Int} (h : qFw F m m1) (g : qFw F m1 m2) : qFw F m m2 := ⟨fun x h1 h2 => (g.1 x h1 h2).trans (h.1 x h1 h2), fun j h1 => (g.2 j h1).trans (h.2 j h1)⟩
theorem s_appendCell (d : Nat) (S : zS) (F v : Int) (L : List Int) (m : Int → Int → Int) (h : 1 ≤ d) (hF : qFk S F) (hp : qFp m F) (hL : qCl m F L) (hl : L.length < 160) :
    ∃ m', zD d 73 [vr F, vi v] (qW S m) = some (.inl none, qW S m') ∧ qCl m' F (L ++ [v]) ∧ qFw F m m' := by
  obtain ⟨e, rfl, -⟩ := qd h
  obtain ⟨k0, k1, k2, k3, k4, k5, k6⟩ := hF
  obtain ⟨h1, h2⟩ := hL
  have h10 := hp.2.2.2.2.2
  have e1 : qu m (F + 6) L.length v F = m F := qu_o _ _ _ _ _ (by omega)
  refine ⟨qu (qu m (F + 6) L.length v) F 11 (L.length + 1), ?_, ⟨?_, ?_⟩, fun x x1 x2 => ?_, fun j j1 => ?_⟩
  · simp (config := { maxSteps := 2000000 }) (disch := first | omega | (simp only [k0, k6, h10, h1, e1, qb_in, qkW, qmW, qnW, true_and, and_true, or_self, true_or, or_true, and_self]; done) | (simp only [k0, k6, h10, h1, e1, qb_in, qkW, qmW, qnW, true_and, and_true, or_self, true_or, or_true, and_self]; omega)) only [zD_73, b73_0, b73_10, b73_26, b73_30, qcall_l, qcall_r, qretn_l, qJ_s, qJ_n, qV0, qEx, ↓qif0, ↓zchk_pos, ↓reduceIte, qput, qWW, qmW, qkW, qnW, k0, k6, h10, h1, e1, if_pos (show (L.length : Int) < 160 by omega), q32]
  · rw [qu_s, List.length_append]; rfl
  · exact qA_o (qA_push h2 v) (qu_o _ _ _ _ _ (by omega))
  · rw [qu_o _ _ _ _ _ x1, qu_o _ _ _ _ _ x2]
  · rw [qu_i _ _ _ _ _ j1, e1]
theorem qFp_w {F : Int} {m m' : Int → Int → Int} (h : qFp m F) (f : qFw F m m') : qFp m' F := by
  obtain ⟨h0, h4, h5, h6, h7, h10⟩ := h
  exact ⟨by rw [f.2 0 (by decide), h0], by rw [f.2 4 (by decide), h4], by rw [f.2 5 (by decide), h5], by rw [f.2 6 (by decide), h6], by rw [f.2 7 (by decide), h7], by rw [f.2 10 (by decide), h10]⟩
def qkn : qTree → Int
  | .nest z .nil => if z < 0 then 97 else 48
  | .tag o _ => o
  | _ => 0
def qat : qTree → Int
  | .nest _ _ => 1
  | _ => 0
theorem s_isAtom (d : Nat) (S : zS) (F b i : Int) (x : qTree) (m : Int → Int → Int) (h : 1 ≤ d) (hF : qFk S F) (hp : qFp m F) (h8 : m F 8 = b) (hb : b ≤ 24) (hi : 0 ≤ i ∧ i < b) (hw : qwf x) (hx : qcr m F x i) : zD d 71 [vr F, vi i] (qW S m) = some (.inl (some (vi (qat x))), qW S m) ∧ m (F + 2) i = qkn x := by
  obtain ⟨e, rfl, -⟩ := qd h
  obtain ⟨k0, k1, k2, k3, k4, k5, k6⟩ := hF
  obtain ⟨h0, h4, h5, h6, h7, h10⟩ := hp
  revert hx
  refine q_ind (P := fun x => qcr m F x i → zD (e + 1) 71 [vr F, vi i] (qW S m) = some (.inl (some (vi (qat x))), qW S m) ∧ m (F + 2) i = qkn x) (fun z _ hx => ?_) (fun o l r hj _ _ _ _ hx => ?_) x hw
  · rw [qcr_a] at hx
    by_cases c : z < 0
    · rw [if_pos c] at hx
      refine ⟨?_, by rw [hx.1]; show _ = if z < 0 then 97 else 48; rw [if_pos c]⟩
      have hx1 := hx.1
      rw [show qat (qAt z) = 1 from rfl]
      simp (config := { maxSteps := 2000000 }) (disch := first | omega | (simp only [k0, k2, h4, qb_in, qkW, qmW, qnW, true_and, and_true, or_self, true_or, or_true, and_self]; done) | (simp only [k0, k2, h4, qb_in, qkW, qmW, qnW, true_and, and_true, or_self, true_or, or_true, and_self]; omega)) only [zD_71, b71_0, b71_4, b71_12, b71_23, b71_34, b71_38, b71_39, qcall_l, qcall_r, qretn_l, qJ_s, qJ_n, qV0, qEx, ↓qif0, ↓zchk_pos, ↓reduceIte, qput, qWW, qmW, qkW, qnW, k0, k2, h4, h8, hx1, if_neg (show ¬ i < 0 by omega), if_pos hi.2, Int.reduceEq, Int.reduceLE, true_and, and_self]
    · rw [if_neg c] at hx
      refine ⟨?_, by rw [hx.1]; show _ = if z < 0 then 97 else 48; rw [if_neg c]⟩
      have hx1 := hx.1
      rw [show qat (qAt z) = 1 from rfl]
      simp (config := { maxSteps := 2000000 }) (disch := first | omega | (simp only [k0, k2, h4, qb_in, qkW, qmW, qnW, true_and, and_true, or_self, true_or, or_true, and_self]; done) | (simp only [k0, k2, h4, qb_in, qkW, qmW, qnW, true_and, and_true, or_self, true_or, or_true, and_self]; omega)) only [zD_71, b71_0, b71_4, b71_12, b71_23, b71_34, b71_38, b71_39, qcall_l, qcall_r, qretn_l, qJ_s, qJ_n, qV0, qEx, ↓qif0, ↓zchk_pos, ↓reduceIte, qput, qWW, qmW, qkW, qnW, k0, k2, h4, h8, hx1, if_neg (show ¬ i < 0 by omega), if_pos hi.2, Int.reduceEq, Int.reduceLE, true_and, and_self]
  · rw [qcr_o] at hx
    have hx1 := hx.1
    refine ⟨?_, hx1⟩
    rw [show qat (qOp o l r) = 0 from rfl]
    simp (config := { maxSteps := 2000000 }) (disch := first | omega | (simp only [k0, k2, h4, qb_in, qkW, qmW, qnW, true_and, and_true, or_self, true_or, or_true, and_self]; done) | (simp only [k0, k2, h4, qb_in, qkW, qmW, qnW, true_and, and_true, or_self, true_or, or_true, and_self]; omega)) only [zD_71, b71_0, b71_4, b71_12, b71_23, b71_34, b71_38, b71_39, qcall_l, qcall_r, qretn_l, qJ_s, qJ_n, qV0, qEx, ↓qif0, ↓zchk_pos, ↓reduceIte, qput, qWW, qmW, qkW, qnW, k0, k2, h4, h8, hx1, if_neg (show ¬ i < 0 by omega), if_pos hi.2, if_neg (show ¬ (o : Int) = 48 by omega), if_neg (show ¬ (o : Int) = 97 by omega), Int.reduceLE, true_and, and_self]
theorem s_rankOf (d : Nat) (S : zS) (o : Int) (h : 1 ≤ d) : zD d 78 [vi o] S = some (.inl (some (vi (qrk o))), S) := by
  obtain ⟨e, rfl, -⟩ := qd h
  unfold qrk
  by_cases h1 : o = 43
  · rw [if_pos (Or.inl h1)]
    simp (config := { maxSteps := 2000000 }) (disch := first | omega | (simp only [qb_in, qkW, qmW, qnW, true_and, and_true, or_self, true_or, or_true, and_self]; done) | (simp only [qb_in, qkW, qmW, qnW, true_and, and_true, or_self, true_or, or_true, and_self]; omega)) only [zD_78, b78_0, b78_6, b78_12, b78_16, b78_22, b78_26, b78_27, qcall_l, qcall_r, qretn_l, qJ_s, qJ_n, qV0, qEx, ↓qif0, ↓zchk_pos, ↓reduceIte, qput, qWW, qmW, qkW, qnW, if_pos h1]
  · by_cases h2 : o = 45
    · rw [if_pos (Or.inr h2)]
      simp (config := { maxSteps := 2000000 }) (disch := first | omega | (simp only [qb_in, qkW, qmW, qnW, true_and, and_true, or_self, true_or, or_true, and_self]; done) | (simp only [qb_in, qkW, qmW, qnW, true_and, and_true, or_self, true_or, or_true, and_self]; omega)) only [zD_78, b78_0, b78_6, b78_12, b78_16, b78_22, b78_26, b78_27, qcall_l, qcall_r, qretn_l, qJ_s, qJ_n, qV0, qEx, ↓qif0, ↓zchk_pos, ↓reduceIte, qput, qWW, qmW, qkW, qnW, if_neg h1, if_pos h2]
    · rw [if_neg (show ¬ (o = 43 ∨ o = 45) by omega)]
      by_cases h3 : o = 94
      · rw [if_pos h3]
        simp (config := { maxSteps := 2000000 }) (disch := first | omega | (simp only [qb_in, qkW, qmW, qnW, true_and, and_true, or_self, true_or, or_true, and_self]; done) | (simp only [qb_in, qkW, qmW, qnW, true_and, and_true, or_self, true_or, or_true, and_self]; omega)) only [zD_78, b78_0, b78_6, b78_12, b78_16, b78_22, b78_26, b78_27, qcall_l, qcall_r, qretn_l, qJ_s, qJ_n, qV0, qEx, ↓qif0, ↓zchk_pos, ↓reduceIte, qput, qWW, qmW, qkW, qnW, if_neg h1, if_neg h2, if_pos h3]
      · rw [if_neg h3]
        simp (config := { maxSteps := 2000000 }) (disch := first | omega | (simp only [qb_in, qkW, qmW, qnW, true_and, and_true, or_self, true_or, or_true, and_self]; done) | (simp only [qb_in, qkW, qmW, qnW, true_and, and_true, or_self, true_or, or_true, and_self]; omega)) only [zD_78, b78_0, b78_6, b78_12, b78_16, b78_22, b78_26, b78_27, qcall_l, qcall_r, qretn_l, qJ_s, qJ_n, qV0, qEx, ↓qif0, ↓zchk_pos, ↓reduceIte, qput, qWW, qmW, qkW, qnW, if_neg h1, if_neg h2, if_neg h3]
theorem qnb_r (fld o : Int) (x : qTree) (rt : Int) : qnb fld o x rt = 0 ∨ qnb fld o x rt = 1 := by
  unfold qnb
  split
  · split
    · exact Or.inl rfl
    · split
      · exact Or.inr rfl
      · exact Or.inl rfl
  · exact Or.inl rfl
theorem s_needsBrackets (d : Nat) (S : zS) (F b i fld o rt : Int) (x : qTree) (m : Int → Int → Int) (h : 2 ≤ d) (hF : qFk S F) (hp : qFp m F) (h8 : m F 8 = b) (h3 : m F 3 = fld) (hfl : fld = 0 ∨ fld = 1) (hb : b ≤ 24) (hi : 0 ≤ i ∧ i < b) (hw : qwf x) (hx : qcr m F x i) (hrt : rt = 0 ∨ rt = 1) : zD d 79 [vr F, vi o, vi i, vi rt] (qW S m) = some (.inl (some (vi (qnb fld o x rt))), qW S m) := by
  obtain ⟨e, rfl, h1⟩ := qd h
  obtain ⟨ia, ik⟩ := s_isAtom e S F b i x m h1 hF hp h8 hb hi hw hx
  obtain ⟨k0, k1, k2, k3, k4, k5, k6⟩ := hF
  obtain ⟨h0, h4, h5, h6, h7, h10⟩ := hp
  have hc1 : i < m F 8 := by rw [h8]; exact hi.2
  revert ia ik
  refine q_ind (P := fun x => zD e 71 [vr F, vi i] (qW S m) = some (.inl (some (vi (qat x))), qW S m) → m (F + 2) i = qkn x → zD (e + 1) 79 [vr F, vi o, vi i, vi rt] (qW S m) = some (.inl (some (vi (qnb fld o x rt))), qW S m)) (fun z _ ia ik => ?_) (fun k l r hj _ _ _ _ ia ik => ?_) x hw
  · rw [qnb_a]
    have ia : zD e 71 [vr F, vi i] (qW S m) = some (.inl (some (vi 1)), qW S m) := ia
    simp (config := { maxSteps := 2000000 }) (disch := first | omega | (simp only [k0, qb_in, qkW, qmW, qnW, true_and, and_true, or_self, true_or, or_true, and_self]; done) | (simp only [k0, qb_in, qkW, qmW, qnW, true_and, and_true, or_self, true_or, or_true, and_self]; omega)) only [zD_79, b79_0, b79_4, b79_12, b79_17, b79_20, b79_27, b79_38, b79_40, b79_44, b79_55, b79_64, b79_71, b79_78, b79_82, b79_83, b79_86, b79_90, b79_91, qcall_l, qcall_r, qretn_l, qJ_s, qJ_n, qV0, qEx, ↓qif0, ↓zchk_pos, ↓reduceIte, qput, qWW, qmW, qkW, qnW, k0, if_neg (show ¬ i < 0 by omega), if_pos hc1, ia, Int.reduceEq, Int.reduceLE, true_and, and_self]
  · rw [qnb_o]
    have ia : zD e 71 [vr F, vi i] (qW S m) = some (.inl (some (vi 0)), qW S m) := ia
    have ik : m (F + 2) i = k := ik
    have r1 := s_rankOf e (qW S m) o (by omega)
    have r2 := s_rankOf e (qW S m) k (by omega)
    have tail : zF_79 e 40 [vr F, vi o, vi i, vi rt, vu, vu] [] (qW S m) = some (.inl (some (vi (if qrk k < qrk o ∨ qrk k = qrk o ∧ (rt = 1 ∧ qrk o < 2 ∨ rt = 0 ∧ ¬ qrk o < 2) then 1 else 0))), qW S m) := by
      by_cases q1 : qrk k < qrk o
      · rw [if_pos (Or.inl q1)]
        simp (config := { maxSteps := 2000000 }) (disch := first | omega | (simp only [k0, k2, h4, qb_in, qkW, qmW, qnW, true_and, and_true, or_self, true_or, or_true, and_self]; done) | (simp only [k0, k2, h4, qb_in, qkW, qmW, qnW, true_and, and_true, or_self, true_or, or_true, and_self]; omega)) only [b79_0, b79_4, b79_12, b79_17, b79_20, b79_27, b79_38, b79_40, b79_44, b79_55, b79_64, b79_71, b79_78, b79_82, b79_83, b79_86, b79_90, b79_91, qcall_l, qcall_r, qretn_l, qJ_s, qJ_n, qV0, qEx, ↓qif0, ↓zchk_pos, ↓reduceIte, qput, qWW, qmW, qkW, qnW, k0, k2, h4, ik, r1, r2, if_pos q1, Int.reduceLE, true_and, and_self]
      · by_cases q2 : qrk k = qrk o
        · by_cases q3 : qrk o < 2
          · rcases hrt with rfl | rfl
            · rw [if_neg (by omega)]
              simp (config := { maxSteps := 2000000 }) (disch := first | omega | (simp only [k0, k2, h4, qb_in, qkW, qmW, qnW, true_and, and_true, or_self, true_or, or_true, and_self]; done) | (simp only [k0, k2, h4, qb_in, qkW, qmW, qnW, true_and, and_true, or_self, true_or, or_true, and_self]; omega)) only [b79_0, b79_4, b79_12, b79_17, b79_20, b79_27, b79_38, b79_40, b79_44, b79_55, b79_64, b79_71, b79_78, b79_82, b79_83, b79_86, b79_90, b79_91, qcall_l, qcall_r, qretn_l, qJ_s, qJ_n, qV0, qEx, ↓qif0, ↓zchk_pos, ↓reduceIte, qput, qWW, qmW, qkW, qnW, k0, k2, h4, ik, r1, r2, if_neg q1, if_pos q2, if_pos q3, Int.reduceEq, Int.reduceLE, true_and, and_self]
            · rw [if_pos (by omega)]
              simp (config := { maxSteps := 2000000 }) (disch := first | omega | (simp only [k0, k2, h4, qb_in, qkW, qmW, qnW, true_and, and_true, or_self, true_or, or_true, and_self]; done) | (simp only [k0, k2, h4, qb_in, qkW, qmW, qnW, true_and, and_true, or_self, true_or, or_true, and_self]; omega)) only [b79_0, b79_4, b79_12, b79_17, b79_20, b79_27, b79_38, b79_40, b79_44, b79_55, b79_64, b79_71, b79_78, b79_82, b79_83, b79_86, b79_90, b79_91, qcall_l, qcall_r, qretn_l, qJ_s, qJ_n, qV0, qEx, ↓qif0, ↓zchk_pos, ↓reduceIte, qput, qWW, qmW, qkW, qnW, k0, k2, h4, ik, r1, r2, if_neg q1, if_pos q2, if_pos q3, Int.reduceEq, Int.reduceLE, true_and, and_self]
          · rcases hrt with rfl | rfl
            · rw [if_pos (by omega)]
              simp (config := { maxSteps := 2000000 }) (disch := first | omega | (simp only [k0, k2, h4, qb_in, qkW, qmW, qnW, true_and, and_true, or_self, true_or, or_true, and_self]; done) | (simp only [k0, k2, h4, qb_in, qkW, qmW, qnW, true_and, and_true, or_self, true_or, or_true, and_self]; omega)) only [b79_0, b79_4, b79_12, b79_17, b79_20, b79_27, b79_38, b79_40, b79_44, b79_55, b79_64, b79_71, b79_78, b79_82, b79_83, b79_86, b79_90, b79_91, qcall_l, qcall_r, qretn_l, qJ_s, qJ_n, qV0, qEx, ↓qif0, ↓zchk_pos, ↓reduceIte, qput, qWW, qmW, qkW, qnW, k0, k2, h4, ik, r1, r2, if_neg q1, if_pos q2, if_neg q3, Int.reduceEq, Int.reduceLE, true_and, and_self]
            · rw [if_neg (by omega)]
              simp (config := { maxSteps := 2000000 }) (disch := first | omega | (simp only [k0, k2, h4, qb_in, qkW, qmW, qnW, true_and, and_true, or_self, true_or, or_true, and_self]; done) | (simp only [k0, k2, h4, qb_in, qkW, qmW, qnW, true_and, and_true, or_self, true_or, or_true, and_self]; omega)) only [b79_0, b79_4, b79_12, b79_17, b79_20, b79_27, b79_38, b79_40, b79_44, b79_55, b79_64, b79_71, b79_78, b79_82, b79_83, b79_86, b79_90, b79_91, qcall_l, qcall_r, qretn_l, qJ_s, qJ_n, qV0, qEx, ↓qif0, ↓zchk_pos, ↓reduceIte, qput, qWW, qmW, qkW, qnW, k0, k2, h4, ik, r1, r2, if_neg q1, if_pos q2, if_neg q3, Int.reduceEq, Int.reduceLE, true_and, and_self]
        · rw [if_neg (by omega)]
          simp (config := { maxSteps := 2000000 }) (disch := first | omega | (simp only [k0, k2, h4, qb_in, qkW, qmW, qnW, true_and, and_true, or_self, true_or, or_true, and_self]; done) | (simp only [k0, k2, h4, qb_in, qkW, qmW, qnW, true_and, and_true, or_self, true_or, or_true, and_self]; omega)) only [b79_0, b79_4, b79_12, b79_17, b79_20, b79_27, b79_38, b79_40, b79_44, b79_55, b79_64, b79_71, b79_78, b79_82, b79_83, b79_86, b79_90, b79_91, qcall_l, qcall_r, qretn_l, qJ_s, qJ_n, qV0, qEx, ↓qif0, ↓zchk_pos, ↓reduceIte, qput, qWW, qmW, qkW, qnW, k0, k2, h4, ik, r1, r2, if_neg q1, if_neg q2, Int.reduceLE, true_and, and_self]
    rcases hfl with f0 | f1
    · rw [if_neg (show ¬ (fld = 1 ∧ (k : Int) = 47) by omega), ← tail]
      simp (config := { maxSteps := 2000000 }) (disch := first | omega | (simp only [k0, qb_in, qkW, qmW, qnW, true_and, and_true, or_self, true_or, or_true, and_self]; done) | (simp only [k0, qb_in, qkW, qmW, qnW, true_and, and_true, or_self, true_or, or_true, and_self]; omega)) only [zD_79, b79_0, b79_4, b79_12, b79_17, b79_20, b79_27, b79_38, b79_44, b79_55, b79_64, b79_71, b79_78, b79_82, b79_83, b79_86, b79_90, b79_91, qcall_l, qcall_r, qretn_l, qJ_s, qJ_n, qV0, qEx, ↓qif0, ↓zchk_pos, ↓reduceIte, qput, qWW, qmW, qkW, qnW, k0, h3, if_neg (show ¬ i < 0 by omega), if_pos hc1, ia, if_pos f0, Int.reduceEq]
    · by_cases c : (k : Int) = 47
      · rw [if_pos ⟨f1, c⟩]
        simp (config := { maxSteps := 2000000 }) (disch := first | omega | (simp only [k0, k2, h4, qb_in, qkW, qmW, qnW, true_and, and_true, or_self, true_or, or_true, and_self]; done) | (simp only [k0, k2, h4, qb_in, qkW, qmW, qnW, true_and, and_true, or_self, true_or, or_true, and_self]; omega)) only [zD_79, b79_0, b79_4, b79_12, b79_17, b79_20, b79_27, b79_38, b79_44, b79_55, b79_64, b79_71, b79_78, b79_82, b79_83, b79_86, b79_90, b79_91, qcall_l, qcall_r, qretn_l, qJ_s, qJ_n, qV0, qEx, ↓qif0, ↓zchk_pos, ↓reduceIte, qput, qWW, qmW, qkW, qnW, k0, k2, h3, h4, ik, if_neg (show ¬ i < 0 by omega), if_pos hc1, ia, if_neg (show ¬ fld = 0 by omega), if_pos c, Int.reduceEq, Int.reduceLE, true_and, and_self]
      · rw [if_neg (show ¬ (fld = 1 ∧ (k : Int) = 47) from fun z => c z.2), ← tail]
        simp (config := { maxSteps := 2000000 }) (disch := first | omega | (simp only [k0, k2, h4, qb_in, qkW, qmW, qnW, true_and, and_true, or_self, true_or, or_true, and_self]; done) | (simp only [k0, k2, h4, qb_in, qkW, qmW, qnW, true_and, and_true, or_self, true_or, or_true, and_self]; omega)) only [zD_79, b79_0, b79_4, b79_12, b79_17, b79_20, b79_27, b79_38, b79_44, b79_55, b79_64, b79_71, b79_78, b79_82, b79_83, b79_86, b79_90, b79_91, qcall_l, qcall_r, qretn_l, qJ_s, qJ_n, qV0, qEx, ↓qif0, ↓zchk_pos, ↓reduceIte, qput, qWW, qmW, qkW, qnW, k0, k2, h3, h4, ik, if_neg (show ¬ i < 0 by omega), if_pos hc1, ia, if_neg (show ¬ fld = 0 by omega), if_neg c, Int.reduceEq]
theorem s_cellOfSign (d : Nat) (S : zS) (o : Int) (h : 1 ≤ d) : zD d 77 [vi o] S = some (.inl (some (vi (qcs o))), S) := by
  obtain ⟨e, rfl, -⟩ := qd h
  unfold qcs
  by_cases h1 : o = 43
  · rw [if_pos h1]
    simp (config := { maxSteps := 2000000 }) (disch := first | omega | (simp only [qb_in, qkW, qmW, qnW, true_and, and_true, or_self, true_or, or_true, and_self]; done) | (simp only [qb_in, qkW, qmW, qnW, true_and, and_true, or_self, true_or, or_true, and_self]; omega)) only [zD_77, b77_0, b77_6, b77_11, b77_17, b77_22, b77_28, b77_33, b77_39, b77_44, b77_46, qcall_l, qcall_r, qretn_l, qJ_s, qJ_n, qV0, qEx, ↓qif0, ↓zchk_pos, ↓reduceIte, qput, qWW, qmW, qkW, qnW, if_pos h1]
  · rw [if_neg h1]
    by_cases h2 : o = 45
    · rw [if_pos h2]
      simp (config := { maxSteps := 2000000 }) (disch := first | omega | (simp only [qb_in, qkW, qmW, qnW, true_and, and_true, or_self, true_or, or_true, and_self]; done) | (simp only [qb_in, qkW, qmW, qnW, true_and, and_true, or_self, true_or, or_true, and_self]; omega)) only [zD_77, b77_0, b77_6, b77_11, b77_17, b77_22, b77_28, b77_33, b77_39, b77_44, b77_46, qcall_l, qcall_r, qretn_l, qJ_s, qJ_n, qV0, qEx, ↓qif0, ↓zchk_pos, ↓reduceIte, qput, qWW, qmW, qkW, qnW, if_neg h1, if_pos h2]
    · rw [if_neg h2]
      by_cases h3 : o = 46
      · rw [if_pos h3]
        simp (config := { maxSteps := 2000000 }) (disch := first | omega | (simp only [qb_in, qkW, qmW, qnW, true_and, and_true, or_self, true_or, or_true, and_self]; done) | (simp only [qb_in, qkW, qmW, qnW, true_and, and_true, or_self, true_or, or_true, and_self]; omega)) only [zD_77, b77_0, b77_6, b77_11, b77_17, b77_22, b77_28, b77_33, b77_39, b77_44, b77_46, qcall_l, qcall_r, qretn_l, qJ_s, qJ_n, qV0, qEx, ↓qif0, ↓zchk_pos, ↓reduceIte, qput, qWW, qmW, qkW, qnW, if_neg h1, if_neg h2, if_pos h3]
      · rw [if_neg h3]
        by_cases h4 : o = 47
        · rw [if_pos h4]
          simp (config := { maxSteps := 2000000 }) (disch := first | omega | (simp only [qb_in, qkW, qmW, qnW, true_and, and_true, or_self, true_or, or_true, and_self]; done) | (simp only [qb_in, qkW, qmW, qnW, true_and, and_true, or_self, true_or, or_true, and_self]; omega)) only [zD_77, b77_0, b77_6, b77_11, b77_17, b77_22, b77_28, b77_33, b77_39, b77_44, b77_46, qcall_l, qcall_r, qretn_l, qJ_s, qJ_n, qV0, qEx, ↓qif0, ↓zchk_pos, ↓reduceIte, qput, qWW, qmW, qkW, qnW, if_neg h1, if_neg h2, if_neg h3, if_pos h4]
        · rw [if_neg h4]
          simp (config := { maxSteps := 2000000 }) (disch := first | omega | (simp only [qb_in, qkW, qmW, qnW, true_and, and_true, or_self, true_or, or_true, and_self]; done) | (simp only [qb_in, qkW, qmW, qnW, true_and, and_true, or_self, true_or, or_true, and_self]; omega)) only [zD_77, b77_0, b77_6, b77_11, b77_17, b77_22, b77_28, b77_33, b77_39, b77_44, b77_46, qcall_l, qcall_r, qretn_l, qJ_s, qJ_n, qV0, qEx, ↓qif0, ↓zchk_pos, ↓reduceIte, qput, qWW, qmW, qkW, qnW, if_neg h1, if_neg h2, if_neg h3, if_neg h4]
