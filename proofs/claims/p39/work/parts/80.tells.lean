/-! The reference tells the tree in cells. -/
def qTk2 (m : Int → Int → Int) (T L : List Int) : Prop := m 37 94 = T.length ∧ qA m 101 T ∧ m 37 92 = L.length ∧ qA m 100 L
def qFz (m m' : Int → Int → Int) : Prop := qfr [100, 101] [92, 94] m m'
theorem qFz_t {m m1 m2 : Int → Int → Int} (h : qFz m m1) (g : qFz m1 m2) : qFz m m2 := qfr_t' h g (fun _ h => h) fun _ h => h
theorem r_does (d : Nat) (S : zS) (v : Int) (T L : List Int) (m : Int → Int → Int) (h : 1 ≤ d) (hK : qK S) (hP : qP m) (hs : qTk2 m T L) (hl : T.length < 200) :
    ∃ m', zD d 243 [vr 37, vi v] (qW S m) = some (.inl none, qW S m') ∧ qTk2 m' (T ++ [v]) L ∧ qFz m m' := by
  obtain ⟨e, rfl, -⟩ := qd h
  obtain ⟨h1, h2, h3, h4⟩ := hs
  have e1 : qu m 101 T.length v 37 = m 37 := qu_o _ _ _ _ _ (by decide)
  refine ⟨qu (qu m 101 T.length v) 37 94 (T.length + 1), ?_, ⟨?_, ?_, ?_, ?_⟩, ?_⟩
  · simp (config := { maxSteps := 2000000 }) (disch := first | omega | (simp only [K_37 hK, K_101 hK, P_37_93 hP, P_37_93 hP, h1, e1, qb_in, qkW, qmW, qnW, true_and, and_true, or_self, true_or, or_true, and_self]; done) | (simp only [K_37 hK, K_101 hK, P_37_93 hP, P_37_93 hP, h1, e1, qb_in, qkW, qmW, qnW, true_and, and_true, or_self, true_or, or_true, and_self]; omega)) only [zD_243, b243_0, b243_16, qcall_l, qcall_r, qretn_l, qJ_s, qJ_n, qV0, qEx, ↓qif0, ↓zchk_pos, ↓reduceIte, qput, qWW, qmW, qkW, qnW, K_37 hK, K_101 hK, P_37_93 hP, P_37_93 hP, h1, e1, q32]
  · rw [qu_s, List.length_append]; rfl
  · exact qA_o (qA_push h2 v) (qu_o _ _ _ _ _ (by decide))
  · rw [qu_i _ _ _ _ _ (by decide), e1, h3]
  · exact qA_u (qA_u h4 _ _ _ (Or.inl (by decide))) _ _ _ (Or.inl (by decide))
  · exact qfr_t' (qfr_a _ _ _ _ (by decide) (by decide)) (qfr_j (A := [100, 101]) (J := [92, 94]) _ _ _ (by decide)) (fun _ h => h) fun _ h => h
theorem r_tellsCell (d : Nat) (S : zS) (v : Int) (T L : List Int) (m : Int → Int → Int) (h : 1 ≤ d) (hK : qK S) (hP : qP m) (hs : qTk2 m T L) (hl : L.length < 400) :
    ∃ m', zD d 246 [vr 37, vi v] (qW S m) = some (.inl none, qW S m') ∧ qTk2 m' T (L ++ [v]) ∧ qFz m m' := by
  obtain ⟨e, rfl, -⟩ := qd h
  obtain ⟨h1, h2, h3, h4⟩ := hs
  have e1 : qu m 100 L.length v 37 = m 37 := qu_o _ _ _ _ _ (by decide)
  refine ⟨qu (qu m 100 L.length v) 37 92 (L.length + 1), ?_, ⟨?_, ?_, ?_, ?_⟩, ?_⟩
  · simp (config := { maxSteps := 2000000 }) (disch := first | omega | (simp only [K_37 hK, K_100 hK, P_37_91 hP, P_37_91 hP, h3, e1, qb_in, qkW, qmW, qnW, true_and, and_true, or_self, true_or, or_true, and_self]; done) | (simp only [K_37 hK, K_100 hK, P_37_91 hP, P_37_91 hP, h3, e1, qb_in, qkW, qmW, qnW, true_and, and_true, or_self, true_or, or_true, and_self]; omega)) only [zD_246, b246_0, b246_16, qcall_l, qcall_r, qretn_l, qJ_s, qJ_n, qV0, qEx, ↓qif0, ↓zchk_pos, ↓reduceIte, qput, qWW, qmW, qkW, qnW, K_37 hK, K_100 hK, P_37_91 hP, P_37_91 hP, h3, e1, q32]
  · rw [qu_i _ _ _ _ _ (by decide), e1, h1]
  · exact qA_u (qA_u h2 _ _ _ (Or.inl (by decide))) _ _ _ (Or.inl (by decide))
  · rw [qu_s, List.length_append]; rfl
  · exact qA_o (qA_push h4 v) (qu_o _ _ _ _ _ (by decide))
  · exact qfr_t' (qfr_a _ _ _ _ (by decide) (by decide)) (qfr_j (A := [100, 101]) (J := [92, 94]) _ _ _ (by decide)) (fun _ h => h) fun _ h => h
def qbt2 (x : qTree) : Int := match x with
  | .tag k _ => qbd k
  | _ => 0
theorem qrk_b (o : Int) (h : qjn o) : qbd o = qrk o + 1 := by
  unfold qbd qrk
  by_cases h1 : o = 43 ∨ o = 45
  · rw [if_pos h1, if_pos h1]; rfl
  · rw [if_neg h1, if_neg h1]
    by_cases h2 : o = 46 ∨ o = 47
    · rw [if_pos h2, if_neg (by omega)]; rfl
    · rw [if_neg h2, if_pos (by omega), if_pos (by omega)]; rfl
theorem qbd_0 : qbd 48 = 0 ∧ qbd 97 = 0 := by decide
theorem r_binds (d : Nat) (S : zS) (t : Int → Int) (n b i : Int) (x : qTree) (m : Int → Int → Int) (h : 2 ≤ d) (hK : qK S) (hP : qP m) (hb : b ≤ 24) (hi : 0 ≤ i ∧ i < b) (hw : qwf x) (hx : qrr m t n x i) : zD d 241 [vr 37, vi i] (qW S m) = some (.inl (some (vi (qbt2 x))), qW S m) ∧ m 95 i = qkn x := by
  obtain ⟨e, rfl, h1⟩ := qd h
  have bo := fun c => r_bindsOf e (qW S m) c (by omega)
  revert hx
  refine q_ind (P := fun x => qrr m t n x i → zD (e + 1) 241 [vr 37, vi i] (qW S m) = some (.inl (some (vi (qbt2 x))), qW S m) ∧ m 95 i = qkn x) (fun z _ hx => ?_) (fun o l r hj _ _ _ _ hx => ?_) x hw
  · rw [qrr_a] at hx
    rw [show qbt2 (qAt z) = 0 from rfl, show qkn (qAt z) = if z < 0 then 97 else 48 from rfl]
    by_cases c : z < 0
    · rw [if_pos c] at hx ⊢
      have hx1 := hx.1
      have b1 := bo 97
      rw [qbd_0.2] at b1
      refine ⟨?_, hx1⟩
      simp (config := { maxSteps := 2000000 }) (disch := first | omega | (simp only [K_37 hK, K_95 hK, P_37_84 hP, P_37_84 hP, qb_in, qkW, qmW, qnW, true_and, and_true, or_self, true_or, or_true, and_self]; done) | (simp only [K_37 hK, K_95 hK, P_37_84 hP, P_37_84 hP, qb_in, qkW, qmW, qnW, true_and, and_true, or_self, true_or, or_true, and_self]; omega)) only [zD_241, b241_0, b241_9, qcall_l, qcall_r, qretn_l, qJ_s, qJ_n, qV0, qEx, ↓qif0, ↓zchk_pos, ↓reduceIte, qput, qWW, qmW, qkW, qnW, K_37 hK, K_95 hK, P_37_84 hP, P_37_84 hP, hx1, b1]
    · rw [if_neg c] at hx ⊢
      have hx1 := hx.1
      have b1 := bo 48
      rw [qbd_0.1] at b1
      refine ⟨?_, hx1⟩
      simp (config := { maxSteps := 2000000 }) (disch := first | omega | (simp only [K_37 hK, K_95 hK, P_37_84 hP, P_37_84 hP, qb_in, qkW, qmW, qnW, true_and, and_true, or_self, true_or, or_true, and_self]; done) | (simp only [K_37 hK, K_95 hK, P_37_84 hP, P_37_84 hP, qb_in, qkW, qmW, qnW, true_and, and_true, or_self, true_or, or_true, and_self]; omega)) only [zD_241, b241_0, b241_9, qcall_l, qcall_r, qretn_l, qJ_s, qJ_n, qV0, qEx, ↓qif0, ↓zchk_pos, ↓reduceIte, qput, qWW, qmW, qkW, qnW, K_37 hK, K_95 hK, P_37_84 hP, P_37_84 hP, hx1, b1]
  · rw [qrr_o] at hx
    have hx1 := hx.1
    have b1 := bo o
    refine ⟨?_, hx1⟩
    rw [show qbt2 (qOp o l r) = qbd o from rfl]
    simp (config := { maxSteps := 2000000 }) (disch := first | omega | (simp only [K_37 hK, K_95 hK, P_37_84 hP, P_37_84 hP, qb_in, qkW, qmW, qnW, true_and, and_true, or_self, true_or, or_true, and_self]; done) | (simp only [K_37 hK, K_95 hK, P_37_84 hP, P_37_84 hP, qb_in, qkW, qmW, qnW, true_and, and_true, or_self, true_or, or_true, and_self]; omega)) only [zD_241, b241_0, b241_9, qcall_l, qcall_r, qretn_l, qJ_s, qJ_n, qV0, qEx, ↓qif0, ↓zchk_pos, ↓reduceIte, qput, qWW, qmW, qkW, qnW, K_37 hK, K_95 hK, P_37_84 hP, P_37_84 hP, hx1, b1]
/-- brackets of a part, as the reference asks for them -/
def qhb (fld o : Int) (x : qTree) (rt : Int) : Int := if fld = 1 ∧ (o = 47 ∨ o = 94 ∧ rt = 1) then 0 else qnb fld o x rt
theorem r_hasBrackets (d : Nat) (S : zS) (t : Int → Int) (n b i fld rt : Int) (o : Nat) (l r : qTree) (m : Int → Int → Int) (h : 3 ≤ d) (hK : qK S) (hP : qP m) (hb : b ≤ 24) (hi : 0 ≤ i ∧ i < b) (hj : qjn (o : Int)) (wl : qwf l) (wr : qwf r) (hx : qrr m t n (qOp o l r) i) (hfl : fld = 0 ∨ fld = 1) (hrt : rt = 0 ∨ rt = 1) :
    zD d 242 [vr 37, vi i, vi rt, vi fld] (qW S m) = some (.inl (some (vi (qhb fld o (if rt = 1 then r else l) rt))), qW S m) := by
  obtain ⟨e, rfl, h1⟩ := qd h
  have bn := (r_binds e S t n b i (qOp o l r) m h1 hK hP hb hi (by rw [qwf_o]; exact ⟨hj, wl, wr⟩) hx).1
  rw [show qbt2 (qOp o l r) = qbd o from rfl] at bn
  rw [qrr_o] at hx
  obtain ⟨x1, x2, x3, x4, x5⟩ := hx
  have ho := qrk_b o hj
  -- from the part on
  have key : ∀ (x : qTree) (c : Int), qwf x → qrr m t n x c → 0 ≤ c ∧ c < b → zF_242 e 19 [vr 37, vi i, vi rt, vi fld, vu, vu, vu] [vi c] (qW S m) = some (.inl (some (vi (qhb fld o x rt))), qW S m) := by
    intro x c hw hr hc
    obtain ⟨bp, kp⟩ := r_binds e S t n b c x m h1 hK hP hb hc hw hr
    revert bp kp
    refine q_ind (P := fun x => zD e 241 [vr 37, vi c] (qW S m) = some (.inl (some (vi (qbt2 x))), qW S m) → m 95 c = qkn x → zF_242 e 19 [vr 37, vi i, vi rt, vi fld, vu, vu, vu] [vi c] (qW S m) = some (.inl (some (vi (qhb fld o x rt))), qW S m)) (fun z _ bp kp => ?_) (fun k l' r' hj' _ _ _ _ bp kp => ?_) x hw
    · have e0 : qhb fld o (qAt z) rt = 0 := by
        unfold qhb
        rw [qnb_a]
        split <;> rfl
      have bp : zD e 241 [vr 37, vi c] (qW S m) = some (.inl (some (vi 0)), qW S m) := bp
      rw [e0, b242_19]
      simp (config := { maxSteps := 2000000 }) (disch := first | omega | (simp only [K_37 hK, qb_in, qkW, qmW, qnW, true_and, and_true, or_self, true_or, or_true, and_self]; done) | (simp only [K_37 hK, qb_in, qkW, qmW, qnW, true_and, and_true, or_self, true_or, or_true, and_self]; omega)) only [b242_0, b242_4, b242_13, b242_19, b242_27, b242_34, b242_41, b242_46, b242_58, b242_69, b242_75, b242_79, b242_81, b242_88, b242_95, b242_101, b242_105, b242_108, b242_112, b242_116, b242_117, qcall_l, qcall_r, qretn_l, qJ_s, qJ_n, qV0, qEx, ↓qif0, ↓zchk_pos, ↓reduceIte, qput, qWW, qmW, qkW, qnW, K_37 hK, bp, bn, Int.reduceEq, Int.reduceLE, true_and, and_self]
    · have bp : zD e 241 [vr 37, vi c] (qW S m) = some (.inl (some (vi (qbd k))), qW S m) := bp
      have kp : m 95 c = k := kp
      have hk := qrk_b k hj'
      have hkr : 0 ≤ qrk k := by
        unfold qrk
        repeat' split
        all_goals decide
      have nk : ¬ qbd (k : Int) = 0 := by omega
      have tail : ∀ x0 x1 x3 x4 : zV, zF_242 e 81 [x0, x1, vi rt, x3, x4, vi (qbd k), vi (qbd o)] [] (qW S m) = some (.inl (some (vi (if qrk k < qrk o ∨ qrk k = qrk o ∧ (rt = 1 ∧ qrk o < 2 ∨ rt = 0 ∧ ¬ qrk o < 2) then 1 else 0))), qW S m) := by
        intro x0 x1 x3 x4
        rw [b242_81]
        have or2 : 0 ≤ qrk o ∧ qrk o ≤ 2 := by
          unfold qrk
          repeat' split
          all_goals decide
        by_cases q1 : qrk k < qrk o
        · rw [if_pos (Or.inl q1)]
          simp (config := { maxSteps := 2000000 }) (disch := first | omega | (simp only [qb_in, qkW, qmW, qnW, true_and, and_true, or_self, true_or, or_true, and_self]; done) | (simp only [qb_in, qkW, qmW, qnW, true_and, and_true, or_self, true_or, or_true, and_self]; omega)) only [b242_0, b242_4, b242_13, b242_19, b242_27, b242_34, b242_41, b242_46, b242_58, b242_69, b242_75, b242_79, b242_81, b242_88, b242_95, b242_101, b242_105, b242_108, b242_112, b242_116, b242_117, qcall_l, qcall_r, qretn_l, qJ_s, qJ_n, qV0, qEx, ↓qif0, ↓zchk_pos, ↓reduceIte, qput, qWW, qmW, qkW, qnW, if_pos (show qbd (k : Int) < qbd o by omega), Int.reduceLE, true_and, and_self]
        · by_cases q2 : qrk k = qrk o
          · by_cases q3 : qrk o < 2
            · rcases hrt with rfl | rfl
              · rw [if_neg (show ¬ (qrk k < qrk o ∨ qrk k = qrk o ∧ ((0 : Int) = 1 ∧ qrk o < 2 ∨ (0 : Int) = 0 ∧ ¬ qrk o < 2)) by omega)]
                simp (config := { maxSteps := 2000000 }) (disch := first | omega | (simp only [qb_in, qkW, qmW, qnW, true_and, and_true, or_self, true_or, or_true, and_self]; done) | (simp only [qb_in, qkW, qmW, qnW, true_and, and_true, or_self, true_or, or_true, and_self]; omega)) only [b242_0, b242_4, b242_13, b242_19, b242_27, b242_34, b242_41, b242_46, b242_58, b242_69, b242_75, b242_79, b242_81, b242_88, b242_95, b242_101, b242_105, b242_108, b242_112, b242_116, b242_117, qcall_l, qcall_r, qretn_l, qJ_s, qJ_n, qV0, qEx, ↓qif0, ↓zchk_pos, ↓reduceIte, qput, qWW, qmW, qkW, qnW, if_neg (show ¬ qbd (k : Int) < qbd o by omega), if_pos (show qbd (k : Int) = qbd o by omega), if_neg (show ¬ qbd (o : Int) = 3 by omega), Int.reduceEq, Int.reduceLE, true_and, and_self]
              · rw [if_pos (show (qrk k < qrk o ∨ qrk k = qrk o ∧ ((1 : Int) = 1 ∧ qrk o < 2 ∨ (1 : Int) = 0 ∧ ¬ qrk o < 2)) by omega)]
                simp (config := { maxSteps := 2000000 }) (disch := first | omega | (simp only [qb_in, qkW, qmW, qnW, true_and, and_true, or_self, true_or, or_true, and_self]; done) | (simp only [qb_in, qkW, qmW, qnW, true_and, and_true, or_self, true_or, or_true, and_self]; omega)) only [b242_0, b242_4, b242_13, b242_19, b242_27, b242_34, b242_41, b242_46, b242_58, b242_69, b242_75, b242_79, b242_81, b242_88, b242_95, b242_101, b242_105, b242_108, b242_112, b242_116, b242_117, qcall_l, qcall_r, qretn_l, qJ_s, qJ_n, qV0, qEx, ↓qif0, ↓zchk_pos, ↓reduceIte, qput, qWW, qmW, qkW, qnW, if_neg (show ¬ qbd (k : Int) < qbd o by omega), if_pos (show qbd (k : Int) = qbd o by omega), if_neg (show ¬ qbd (o : Int) = 3 by omega), Int.reduceEq, Int.reduceLE, true_and, and_self]
            · rcases hrt with rfl | rfl
              · rw [if_pos (show (qrk k < qrk o ∨ qrk k = qrk o ∧ ((0 : Int) = 1 ∧ qrk o < 2 ∨ (0 : Int) = 0 ∧ ¬ qrk o < 2)) by omega)]
                simp (config := { maxSteps := 2000000 }) (disch := first | omega | (simp only [qb_in, qkW, qmW, qnW, true_and, and_true, or_self, true_or, or_true, and_self]; done) | (simp only [qb_in, qkW, qmW, qnW, true_and, and_true, or_self, true_or, or_true, and_self]; omega)) only [b242_0, b242_4, b242_13, b242_19, b242_27, b242_34, b242_41, b242_46, b242_58, b242_69, b242_75, b242_79, b242_81, b242_88, b242_95, b242_101, b242_105, b242_108, b242_112, b242_116, b242_117, qcall_l, qcall_r, qretn_l, qJ_s, qJ_n, qV0, qEx, ↓qif0, ↓zchk_pos, ↓reduceIte, qput, qWW, qmW, qkW, qnW, if_neg (show ¬ qbd (k : Int) < qbd o by omega), if_pos (show qbd (k : Int) = qbd o by omega), if_pos (show qbd (o : Int) = 3 by omega), Int.reduceEq, Int.reduceLE, true_and, and_self]
              · rw [if_neg (show ¬ (qrk k < qrk o ∨ qrk k = qrk o ∧ ((1 : Int) = 1 ∧ qrk o < 2 ∨ (1 : Int) = 0 ∧ ¬ qrk o < 2)) by omega)]
                simp (config := { maxSteps := 2000000 }) (disch := first | omega | (simp only [qb_in, qkW, qmW, qnW, true_and, and_true, or_self, true_or, or_true, and_self]; done) | (simp only [qb_in, qkW, qmW, qnW, true_and, and_true, or_self, true_or, or_true, and_self]; omega)) only [b242_0, b242_4, b242_13, b242_19, b242_27, b242_34, b242_41, b242_46, b242_58, b242_69, b242_75, b242_79, b242_81, b242_88, b242_95, b242_101, b242_105, b242_108, b242_112, b242_116, b242_117, qcall_l, qcall_r, qretn_l, qJ_s, qJ_n, qV0, qEx, ↓qif0, ↓zchk_pos, ↓reduceIte, qput, qWW, qmW, qkW, qnW, if_neg (show ¬ qbd (k : Int) < qbd o by omega), if_pos (show qbd (k : Int) = qbd o by omega), if_pos (show qbd (o : Int) = 3 by omega), Int.reduceEq, Int.reduceLE, true_and, and_self]
          · rw [if_neg (show ¬ (qrk k < qrk o ∨ qrk k = qrk o ∧ ((rt : Int) = 1 ∧ qrk o < 2 ∨ (rt : Int) = 0 ∧ ¬ qrk o < 2)) by omega)]
            simp (config := { maxSteps := 2000000 }) (disch := first | omega | (simp only [qb_in, qkW, qmW, qnW, true_and, and_true, or_self, true_or, or_true, and_self]; done) | (simp only [qb_in, qkW, qmW, qnW, true_and, and_true, or_self, true_or, or_true, and_self]; omega)) only [b242_0, b242_4, b242_13, b242_19, b242_27, b242_34, b242_41, b242_46, b242_58, b242_69, b242_75, b242_79, b242_81, b242_88, b242_95, b242_101, b242_105, b242_108, b242_112, b242_116, b242_117, qcall_l, qcall_r, qretn_l, qJ_s, qJ_n, qV0, qEx, ↓qif0, ↓zchk_pos, ↓reduceIte, qput, qWW, qmW, qkW, qnW, if_neg (show ¬ qbd (k : Int) < qbd o by omega), if_neg (show ¬ qbd (k : Int) = qbd o by omega), Int.reduceLE, true_and, and_self]
      unfold qhb
      rw [qnb_o, b242_19]
      rcases hfl with f0 | f1
      · rw [if_neg (by omega), if_neg (show ¬ (fld = 1 ∧ (k : Int) = 47) by omega)]
        simp (config := { maxSteps := 2000000 }) (disch := first | omega | (simp only [K_37 hK, qb_in, qkW, qmW, qnW, true_and, and_true, or_self, true_or, or_true, and_self]; done) | (simp only [K_37 hK, qb_in, qkW, qmW, qnW, true_and, and_true, or_self, true_or, or_true, and_self]; omega)) only [b242_0, b242_4, b242_13, b242_19, b242_27, b242_34, b242_41, b242_46, b242_58, b242_69, b242_75, b242_79, b242_88, b242_95, b242_101, b242_105, b242_108, b242_112, b242_116, b242_117, qcall_l, qcall_r, qretn_l, qJ_s, qJ_n, qV0, qEx, ↓qif0, ↓zchk_pos, ↓reduceIte, qput, qWW, qmW, qkW, qnW, K_37 hK, bp, bn, if_neg nk, if_neg (show ¬ fld = 1 by omega), tail]
      · by_cases c1 : (k : Int) = 47
        · rw [if_pos (show fld = 1 ∧ (k : Int) = 47 from ⟨f1, c1⟩), ite_self]
          simp (config := { maxSteps := 2000000 }) (disch := first | omega | (simp only [K_37 hK, K_95 hK, P_37_84 hP, P_37_84 hP, qb_in, qkW, qmW, qnW, true_and, and_true, or_self, true_or, or_true, and_self]; done) | (simp only [K_37 hK, K_95 hK, P_37_84 hP, P_37_84 hP, qb_in, qkW, qmW, qnW, true_and, and_true, or_self, true_or, or_true, and_self]; omega)) only [b242_0, b242_4, b242_13, b242_19, b242_27, b242_34, b242_41, b242_46, b242_58, b242_69, b242_75, b242_79, b242_88, b242_95, b242_101, b242_105, b242_108, b242_112, b242_116, b242_117, qcall_l, qcall_r, qretn_l, qJ_s, qJ_n, qV0, qEx, ↓qif0, ↓zchk_pos, ↓reduceIte, qput, qWW, qmW, qkW, qnW, K_37 hK, K_95 hK, P_37_84 hP, P_37_84 hP, bp, bn, if_neg nk, if_pos f1, kp, if_pos c1, Int.reduceLE, true_and, and_self]
        · rw [if_neg (show ¬ (fld = 1 ∧ (k : Int) = 47) from fun z => c1 z.2)]
          by_cases c2 : (o : Int) = 47
          · rw [if_pos ⟨f1, Or.inl c2⟩]
            simp (config := { maxSteps := 2000000 }) (disch := first | omega | (simp only [K_37 hK, K_95 hK, P_37_84 hP, P_37_84 hP, qb_in, qkW, qmW, qnW, true_and, and_true, or_self, true_or, or_true, and_self]; done) | (simp only [K_37 hK, K_95 hK, P_37_84 hP, P_37_84 hP, qb_in, qkW, qmW, qnW, true_and, and_true, or_self, true_or, or_true, and_self]; omega)) only [b242_0, b242_4, b242_13, b242_19, b242_27, b242_34, b242_41, b242_46, b242_58, b242_69, b242_75, b242_79, b242_88, b242_95, b242_101, b242_105, b242_108, b242_112, b242_116, b242_117, qcall_l, qcall_r, qretn_l, qJ_s, qJ_n, qV0, qEx, ↓qif0, ↓zchk_pos, ↓reduceIte, qput, qWW, qmW, qkW, qnW, K_37 hK, K_95 hK, P_37_84 hP, P_37_84 hP, bp, bn, if_neg nk, if_pos f1, kp, if_neg c1, x1, if_pos c2, Int.reduceLE, true_and, and_self]
          · by_cases c3 : (o : Int) = 94
            · have c4 : qbd (o : Int) = 3 := by rw [c3]; decide
              rcases hrt with rfl | rfl
              · rw [if_neg (by omega)]
                simp (config := { maxSteps := 2000000 }) (disch := first | omega | (simp only [K_37 hK, K_95 hK, P_37_84 hP, P_37_84 hP, qb_in, qkW, qmW, qnW, true_and, and_true, or_self, true_or, or_true, and_self]; done) | (simp only [K_37 hK, K_95 hK, P_37_84 hP, P_37_84 hP, qb_in, qkW, qmW, qnW, true_and, and_true, or_self, true_or, or_true, and_self]; omega)) only [b242_0, b242_4, b242_13, b242_19, b242_27, b242_34, b242_41, b242_46, b242_58, b242_69, b242_75, b242_79, b242_88, b242_95, b242_101, b242_105, b242_108, b242_112, b242_116, b242_117, qcall_l, qcall_r, qretn_l, qJ_s, qJ_n, qV0, qEx, ↓qif0, ↓zchk_pos, ↓reduceIte, qput, qWW, qmW, qkW, qnW, K_37 hK, K_95 hK, P_37_84 hP, P_37_84 hP, bp, bn, if_neg nk, if_pos f1, kp, if_neg c1, x1, if_neg c2, if_pos c4, Int.reduceEq, tail]
              · rw [if_pos (by omega)]
                simp (config := { maxSteps := 2000000 }) (disch := first | omega | (simp only [K_37 hK, K_95 hK, P_37_84 hP, P_37_84 hP, qb_in, qkW, qmW, qnW, true_and, and_true, or_self, true_or, or_true, and_self]; done) | (simp only [K_37 hK, K_95 hK, P_37_84 hP, P_37_84 hP, qb_in, qkW, qmW, qnW, true_and, and_true, or_self, true_or, or_true, and_self]; omega)) only [b242_0, b242_4, b242_13, b242_19, b242_27, b242_34, b242_41, b242_46, b242_58, b242_69, b242_75, b242_79, b242_88, b242_95, b242_101, b242_105, b242_108, b242_112, b242_116, b242_117, qcall_l, qcall_r, qretn_l, qJ_s, qJ_n, qV0, qEx, ↓qif0, ↓zchk_pos, ↓reduceIte, qput, qWW, qmW, qkW, qnW, K_37 hK, K_95 hK, P_37_84 hP, P_37_84 hP, bp, bn, if_neg nk, if_pos f1, kp, if_neg c1, x1, if_neg c2, if_pos c4, Int.reduceEq, Int.reduceLE, true_and, and_self]
            · have c4 : ¬ qbd (o : Int) = 3 := by
                unfold qbd
                rw [if_neg c3]
                repeat' split
                all_goals decide
              rw [if_neg (by omega)]
              simp (config := { maxSteps := 2000000 }) (disch := first | omega | (simp only [K_37 hK, K_95 hK, P_37_84 hP, P_37_84 hP, qb_in, qkW, qmW, qnW, true_and, and_true, or_self, true_or, or_true, and_self]; done) | (simp only [K_37 hK, K_95 hK, P_37_84 hP, P_37_84 hP, qb_in, qkW, qmW, qnW, true_and, and_true, or_self, true_or, or_true, and_self]; omega)) only [b242_0, b242_4, b242_13, b242_19, b242_27, b242_34, b242_41, b242_46, b242_58, b242_69, b242_75, b242_79, b242_88, b242_95, b242_101, b242_105, b242_108, b242_112, b242_116, b242_117, qcall_l, qcall_r, qretn_l, qJ_s, qJ_n, qV0, qEx, ↓qif0, ↓zchk_pos, ↓reduceIte, qput, qWW, qmW, qkW, qnW, K_37 hK, K_95 hK, P_37_84 hP, P_37_84 hP, bp, bn, if_neg nk, if_pos f1, kp, if_neg c1, x1, if_neg c2, if_neg c4, tail]
  rcases hrt with rfl | rfl
  · rw [if_neg (by decide)]
    have k1 := key l _ wl x4 (by omega)
    simp (config := { maxSteps := 2000000 }) (disch := first | omega | (simp only [K_37 hK, K_96 hK, P_37_85 hP, P_37_85 hP, qb_in, qkW, qmW, qnW, true_and, and_true, or_self, true_or, or_true, and_self]; done) | (simp only [K_37 hK, K_96 hK, P_37_85 hP, P_37_85 hP, qb_in, qkW, qmW, qnW, true_and, and_true, or_self, true_or, or_true, and_self]; omega)) only [zD_242, b242_0, b242_4, b242_13, b242_27, b242_34, b242_41, b242_46, b242_58, b242_69, b242_75, b242_79, b242_81, b242_88, b242_95, b242_101, b242_105, b242_108, b242_112, b242_116, b242_117, qcall_l, qcall_r, qretn_l, qJ_s, qJ_n, qV0, qEx, ↓qif0, ↓zchk_pos, ↓reduceIte, qput, qWW, qmW, qkW, qnW, K_37 hK, K_96 hK, P_37_85 hP, P_37_85 hP, Int.reduceEq, k1]
  · rw [if_pos rfl]
    have k1 := key r _ wr x5 (by omega)
    simp (config := { maxSteps := 2000000 }) (disch := first | omega | (simp only [K_37 hK, K_97 hK, P_37_86 hP, P_37_86 hP, qb_in, qkW, qmW, qnW, true_and, and_true, or_self, true_or, or_true, and_self]; done) | (simp only [K_37 hK, K_97 hK, P_37_86 hP, P_37_86 hP, qb_in, qkW, qmW, qnW, true_and, and_true, or_self, true_or, or_true, and_self]; omega)) only [zD_242, b242_0, b242_4, b242_13, b242_27, b242_34, b242_41, b242_46, b242_58, b242_69, b242_75, b242_79, b242_81, b242_88, b242_95, b242_101, b242_105, b242_108, b242_112, b242_116, b242_117, qcall_l, qcall_r, qretn_l, qJ_s, qJ_n, qV0, qEx, ↓qif0, ↓zchk_pos, ↓reduceIte, qput, qWW, qmW, qkW, qnW, K_37 hK, K_97 hK, P_37_86 hP, P_37_86 hP, Int.reduceEq, k1]
