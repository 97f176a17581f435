/-! The reference makes a tree of the tape. -/
def qbd (c : Int) : Int := if c = 43 ∨ c = 45 then 1 else if c = 46 ∨ c = 47 then 2 else if c = 94 then 3 else 0
theorem qbd_r (c : Int) : 0 ≤ qbd c ∧ qbd c ≤ 3 := by
  unfold qbd
  repeat' split
  all_goals omega
theorem r_bindsOf (d : Nat) (S : zS) (c : Int) (h : 1 ≤ d) : zD d 235 [vi c] S = some (.inl (some (vi (qbd c))), S) := by
  obtain ⟨e, rfl, -⟩ := qd h
  by_cases h1 : c = 43
  · rw [h1]
    simp (config := { maxSteps := 2000000 }) (disch := first | omega | (simp only [qb_in, qkW, qmW, qnW, true_and, and_true, or_self, true_or, or_true, and_self]; done) | (simp only [qb_in, qkW, qmW, qnW, true_and, and_true, or_self, true_or, or_true, and_self]; omega)) only [zD_235, b235_0, b235_6, b235_12, b235_16, b235_22, b235_28, b235_32, b235_38, b235_42, b235_43, qcall_l, qcall_r, qretn_l, qJ_s, qJ_n, qV0, qEx, ↓qif0, ↓zchk_pos, ↓reduceIte, qput, qWW, qmW, qkW, qnW, Int.reduceEq]
    rfl
  · by_cases h2 : c = 45
    · rw [h2]
      simp (config := { maxSteps := 2000000 }) (disch := first | omega | (simp only [qb_in, qkW, qmW, qnW, true_and, and_true, or_self, true_or, or_true, and_self]; done) | (simp only [qb_in, qkW, qmW, qnW, true_and, and_true, or_self, true_or, or_true, and_self]; omega)) only [zD_235, b235_0, b235_6, b235_12, b235_16, b235_22, b235_28, b235_32, b235_38, b235_42, b235_43, qcall_l, qcall_r, qretn_l, qJ_s, qJ_n, qV0, qEx, ↓qif0, ↓zchk_pos, ↓reduceIte, qput, qWW, qmW, qkW, qnW, Int.reduceEq]
      rfl
    · by_cases h3 : c = 46
      · rw [h3]
        simp (config := { maxSteps := 2000000 }) (disch := first | omega | (simp only [qb_in, qkW, qmW, qnW, true_and, and_true, or_self, true_or, or_true, and_self]; done) | (simp only [qb_in, qkW, qmW, qnW, true_and, and_true, or_self, true_or, or_true, and_self]; omega)) only [zD_235, b235_0, b235_6, b235_12, b235_16, b235_22, b235_28, b235_32, b235_38, b235_42, b235_43, qcall_l, qcall_r, qretn_l, qJ_s, qJ_n, qV0, qEx, ↓qif0, ↓zchk_pos, ↓reduceIte, qput, qWW, qmW, qkW, qnW, Int.reduceEq]
        rfl
      · by_cases h4 : c = 47
        · rw [h4]
          simp (config := { maxSteps := 2000000 }) (disch := first | omega | (simp only [qb_in, qkW, qmW, qnW, true_and, and_true, or_self, true_or, or_true, and_self]; done) | (simp only [qb_in, qkW, qmW, qnW, true_and, and_true, or_self, true_or, or_true, and_self]; omega)) only [zD_235, b235_0, b235_6, b235_12, b235_16, b235_22, b235_28, b235_32, b235_38, b235_42, b235_43, qcall_l, qcall_r, qretn_l, qJ_s, qJ_n, qV0, qEx, ↓qif0, ↓zchk_pos, ↓reduceIte, qput, qWW, qmW, qkW, qnW, Int.reduceEq]
          rfl
        · by_cases h5 : c = 94
          · rw [h5]
            simp (config := { maxSteps := 2000000 }) (disch := first | omega | (simp only [qb_in, qkW, qmW, qnW, true_and, and_true, or_self, true_or, or_true, and_self]; done) | (simp only [qb_in, qkW, qmW, qnW, true_and, and_true, or_self, true_or, or_true, and_self]; omega)) only [zD_235, b235_0, b235_6, b235_12, b235_16, b235_22, b235_28, b235_32, b235_38, b235_42, b235_43, qcall_l, qcall_r, qretn_l, qJ_s, qJ_n, qV0, qEx, ↓qif0, ↓zchk_pos, ↓reduceIte, qput, qWW, qmW, qkW, qnW, Int.reduceEq]
            rfl
          · have e0 : qbd c = 0 := by
              unfold qbd
              rw [if_neg (by omega), if_neg (by omega), if_neg h5]
            rw [e0]
            simp (config := { maxSteps := 2000000 }) (disch := first | omega | (simp only [qb_in, qkW, qmW, qnW, true_and, and_true, or_self, true_or, or_true, and_self]; done) | (simp only [qb_in, qkW, qmW, qnW, true_and, and_true, or_self, true_or, or_true, and_self]; omega)) only [zD_235, b235_0, b235_6, b235_12, b235_16, b235_22, b235_28, b235_32, b235_38, b235_42, b235_43, qcall_l, qcall_r, qretn_l, qJ_s, qJ_n, qV0, qEx, ↓qif0, ↓zchk_pos, ↓reduceIte, qput, qWW, qmW, qkW, qnW, if_neg h1, if_neg h2, if_neg h3, if_neg h4, if_neg h5]
def qTs (m : Int → Int → Int) (b : Int) (H W : List Int) : Prop := m 37 83 = b ∧ m 37 88 = H.length ∧ m 37 90 = W.length ∧ qA m 98 H ∧ qA m 99 W
def qFt (b : Int) (m m' : Int → Int → Int) : Prop := qfr [95, 96, 97, 98, 99] [83, 88, 90] m m' ∧ ∀ a i, 95 ≤ a → a ≤ 97 → i < b → m' a i = m a i
theorem qFt_r (b : Int) (m : Int → Int → Int) : qFt b m m := ⟨qfr_r _ _ _, fun _ _ _ _ _ => rfl⟩
theorem qFt_t {b b1 : Int} {m m1 m2 : Int → Int → Int} (h : qFt b m m1) (g : qFt b1 m1 m2) (hb : b ≤ b1) : qFt b m m2 := ⟨qfr_t' h.1 g.1 (fun _ h => h) fun _ h => h, fun a i h1 h2 h3 => (g.2 a i h1 h2 (by omega)).trans (h.2 a i h1 h2 h3)⟩
/-- a node of the reference stands for a tree -/
def qrr (m : Int → Int → Int) (t : Int → Int) (n : Int) : qTree → Int → Prop
  | .nest z .nil, i => if z < 0 then m 95 i = 97 ∧ m 96 i = 96 - z else m 95 i = 48 ∧ ∃ k : Nat, (1 ≤ k ∧ k ≤ 4) ∧ m 97 i = k ∧ 0 ≤ m 96 i ∧ m 96 i + k ≤ n ∧ (∀ j : Int, 0 ≤ j → j < k → qdg (qsy t n (m 96 i + j))) ∧ z = qnv (qsy t n) (m 96 i) k
  | .tag o (.append l r), i => m 95 i = o ∧ (0 ≤ m 96 i ∧ m 96 i < i) ∧ (0 ≤ m 97 i ∧ m 97 i < i) ∧ qrr m t n l (m 96 i) ∧ qrr m t n r (m 97 i)
  | _, _ => False
theorem qrr_a (m : Int → Int → Int) (t : Int → Int) (n z i : Int) : qrr m t n (qAt z) i = if z < 0 then m 95 i = 97 ∧ m 96 i = 96 - z else m 95 i = 48 ∧ ∃ k : Nat, (1 ≤ k ∧ k ≤ 4) ∧ m 97 i = k ∧ 0 ≤ m 96 i ∧ m 96 i + k ≤ n ∧ (∀ j : Int, 0 ≤ j → j < k → qdg (qsy t n (m 96 i + j))) ∧ z = qnv (qsy t n) (m 96 i) k := rfl
theorem qrr_o (m : Int → Int → Int) (t : Int → Int) (n : Int) (o : Nat) (l r : qTree) (i : Int) : qrr m t n (qOp o l r) i = (m 95 i = o ∧ (0 ≤ m 96 i ∧ m 96 i < i) ∧ (0 ≤ m 97 i ∧ m 97 i < i) ∧ qrr m t n l (m 96 i) ∧ qrr m t n r (m 97 i)) := rfl
theorem qrr_f {m m' : Int → Int → Int} {t : Int → Int} {n b : Int} (h : ∀ a i, 95 ≤ a → a ≤ 97 → i < b → m' a i = m a i) : ∀ x, qwf x → ∀ i, i < b → qrr m t n x i → qrr m' t n x i := by
  refine q_ind (fun z _ i hi hx => ?_) fun o l r _ _ _ il ir i hi hx => ?_
  · rw [qrr_a] at hx ⊢
    rw [h _ i (by omega) (by omega) hi, h _ i (by omega) (by omega) hi, h _ i (by omega) (by omega) hi]
    exact hx
  · rw [qrr_o] at hx ⊢
    rw [h _ i (by omega) (by omega) hi, h _ i (by omega) (by omega) hi, h _ i (by omega) (by omega) hi]
    obtain ⟨h1, h2, h3, h4, h5⟩ := hx
    exact ⟨h1, h2, h3, il _ (by omega) h4, ir _ (by omega) h5⟩
theorem r_grows (d : Nat) (S : zS) (b k l r : Int) (H W : List Int) (h : 1 ≤ d) (hK : qK S) (hP : qP (zm S)) (hs : qTs (zm S) b H W) (hb : 0 ≤ b ∧ b < 32) (hH : H.length < 64) (hk : 0 ≤ k ∧ k < 65536) :
    ∃ m', zD d 238 [vr 37, vi k, vi l, vi r] S = some (.inl none, qW S m') ∧ qTs m' (b + 1) (H ++ [b]) W ∧ m' 95 b = k ∧ m' 96 b = l ∧ m' 97 b = r ∧ qFt b (zm S) m' := by
  obtain ⟨e, rfl, -⟩ := qd h
  obtain ⟨h1, h2, h3, h4, h5⟩ := hs
  have ek : k % 65536 = k := by omega
  have e1 : qu (zm S) 95 b k 37 = zm S 37 := qu_o _ _ _ _ _ (by decide)
  have e2 : qu (qu (zm S) 95 b k) 96 b l 37 = zm S 37 := by rw [qu_o _ _ _ _ _ (by decide), e1]
  have e3 : qu (qu (qu (zm S) 95 b k) 96 b l) 97 b r 37 = zm S 37 := by rw [qu_o _ _ _ _ _ (by decide), e2]
  have e4 : qu (qu (qu (qu (zm S) 95 b k) 96 b l) 97 b r) 98 H.length b 37 = zm S 37 := by rw [qu_o _ _ _ _ _ (by decide), e3]
  have e5 : qu (qu (qu (qu (qu (zm S) 95 b k) 96 b l) 97 b r) 98 H.length b) 37 88 (H.length + 1) 37 83 = b := by rw [qu_i _ _ _ _ _ (by decide), e4, h1]
  refine ⟨qu (qu (qu (qu (qu (qu (zm S) 95 b k) 96 b l) 97 b r) 98 H.length b) 37 88 (H.length + 1)) 37 83 (b + 1), ?_, ⟨qu_s _ _ _ _, ?_, ?_, ?_, ?_⟩, ?_, ?_, ?_, ⟨?_, fun a i a1 a2 i1 => ?_⟩⟩
  · simp (config := { maxSteps := 2000000 }) (disch := first | omega | (simp only [K_37 hK, K_95 hK, P_37_84 hP, K_96 hK, P_37_85 hP, K_97 hK, P_37_86 hP, K_98 hK, P_37_87 hP, P_37_84 hP, P_37_85 hP, P_37_86 hP, P_37_87 hP, h1, h2, e1, e2, e3, e4, e5, qb_in, qkW, qmW, qnW, true_and, and_true, or_self, true_or, or_true, and_self]; done) | (simp only [K_37 hK, K_95 hK, P_37_84 hP, K_96 hK, P_37_85 hP, K_97 hK, P_37_86 hP, K_98 hK, P_37_87 hP, P_37_84 hP, P_37_85 hP, P_37_86 hP, P_37_87 hP, h1, h2, e1, e2, e3, e4, e5, qb_in, qkW, qmW, qnW, true_and, and_true, or_self, true_or, or_true, and_self]; omega)) only [zD_238, b238_0, b238_18, b238_34, b238_50, qcall_l, qcall_r, qretn_l, qJ_s, qJ_n, qV0, qEx, ↓qif0, ↓zchk_pos, ↓reduceIte, qput, qWW, qmW, qkW, qnW, K_37 hK, K_95 hK, P_37_84 hP, K_96 hK, P_37_85 hP, K_97 hK, P_37_86 hP, K_98 hK, P_37_87 hP, P_37_84 hP, P_37_85 hP, P_37_86 hP, P_37_87 hP, h1, h2, ek, e1, e2, e3, e4, e5, q32]
  · rw [qu_i _ _ _ _ _ (by decide), qu_s, List.length_append]; rfl
  · rw [qu_i _ _ _ _ _ (by decide), qu_i _ _ _ _ _ (by decide), e4, h3]
  · refine qA_o ?_ (qu_o _ _ _ _ _ (by decide))
    refine qA_o ?_ (qu_o _ _ _ _ _ (by decide))
    refine qA_push (qA_o h4 ?_) b
    rw [qu_o _ _ _ _ _ (by decide), qu_o _ _ _ _ _ (by decide), qu_o _ _ _ _ _ (by decide)]
  · refine qA_o h5 ?_
    rw [qu_o _ _ _ _ _ (by decide), qu_o _ _ _ _ _ (by decide), qu_o _ _ _ _ _ (by decide), qu_o _ _ _ _ _ (by decide), qu_o _ _ _ _ _ (by decide), qu_o _ _ _ _ _ (by decide)]
  · rw [qu_o _ _ _ _ _ (by decide), qu_o _ _ _ _ _ (by decide), qu_o _ _ _ _ _ (by decide), qu_o _ _ _ _ _ (by decide), qu_o _ _ _ _ _ (by decide), qu_s]
  · rw [qu_o _ _ _ _ _ (by decide), qu_o _ _ _ _ _ (by decide), qu_o _ _ _ _ _ (by decide), qu_o _ _ _ _ _ (by decide), qu_s]
  · rw [qu_o _ _ _ _ _ (by decide), qu_o _ _ _ _ _ (by decide), qu_o _ _ _ _ _ (by decide), qu_s]
  · exact qfr_t' (qfr_t' (qfr_t' (qfr_t' (qfr_t' (qfr_a _ _ _ _ (by decide) (by decide)) (qfr_a (A := [95, 96, 97, 98, 99]) (J := [83, 88, 90]) _ _ _ _ (by decide) (by decide)) (fun _ h => h) fun _ h => h) (qfr_a (A := [95, 96, 97, 98, 99]) (J := [83, 88, 90]) _ _ _ _ (by decide) (by decide)) (fun _ h => h) fun _ h => h) (qfr_a (A := [95, 96, 97, 98, 99]) (J := [83, 88, 90]) _ _ _ _ (by decide) (by decide)) (fun _ h => h) fun _ h => h) (qfr_j (A := [95, 96, 97, 98, 99]) (J := [83, 88, 90]) _ _ _ (by decide)) (fun _ h => h) fun _ h => h) (qfr_j (A := [95, 96, 97, 98, 99]) (J := [83, 88, 90]) _ _ _ (by decide)) (fun _ h => h) fun _ h => h
  · have a37 : a ≠ 37 := by omega
    rw [qu_o _ _ _ _ _ a37, qu_o _ _ _ _ _ a37, qu_o _ _ _ _ _ (show a ≠ 98 by omega)]
    simp only [qu1]
    repeat' split
    all_goals first | rfl | (exfalso; omega)
theorem qA_e {m : Int → Int → Int} {b : Int} {L K : List Int} {v : Int} (h : qA m b (L ++ v :: K)) : m b (L.length : Int) = v := h L.length v (by
  rw [List.getElem?_append_right (Nat.le_refl _), Nat.sub_self]
  rfl)
theorem r_joins (d : Nat) (S : zS) (b w l r : Int) (H W : List Int) (h : 2 ≤ d) (hK : qK S) (hP : qP (zm S)) (hs : qTs (zm S) b (H ++ [l, r]) (W ++ [w])) (hb : 0 ≤ b ∧ b < 32) (hH : H.length < 60) (hW : W.length < 120) (hw : 0 ≤ w ∧ w < 65536) :
    ∃ m', zD d 239 [vr 37] S = some (.inl none, qW S m') ∧ qTs m' (b + 1) (H ++ [b]) W ∧ m' 95 b = w ∧ m' 96 b = l ∧ m' 97 b = r ∧ qFt b (zm S) m' := by
  obtain ⟨e, rfl, h1'⟩ := qd h
  obtain ⟨h1, h2, h3, h4, h5⟩ := hs
  have g1 : zm S 98 H.length = l := qA_e h4
  have g2 : zm S 98 (H.length + 1) = r := by
    have h6 : qA (zm S) 98 ((H ++ [l]) ++ r :: []) := by rw [List.append_assoc]; exact h4
    have := qA_e h6
    rw [List.length_append] at this
    exact this
  have g3 : zm S 99 W.length = w := qA_e h5
  have hl : ((H ++ [l, r]).length : Int) = H.length + 2 := by rw [List.length_append]; rfl
  have hlw : ((W ++ [w]).length : Int) = W.length + 1 := by rw [List.length_append]; rfl
  have e1 : qu (qu (zm S) 37 90 W.length) 37 88 H.length 37 90 = W.length := by rw [qu_i _ _ _ _ _ (by decide), qu_s]
  have e2 : ∀ j, j ≠ 88 → j ≠ 90 → qu (qu (zm S) 37 90 W.length) 37 88 H.length 37 j = zm S 37 j := fun j j1 j2 => by rw [qu_i _ _ _ _ _ j1, qu_i _ _ _ _ _ j2]
  have e3 : ∀ x, x ≠ 37 → qu (qu (zm S) 37 90 W.length) 37 88 H.length x = zm S x := fun x x1 => by rw [qu_o _ _ _ _ _ x1, qu_o _ _ _ _ _ x1]
  have e4 : qu (qu (zm S) 37 90 W.length) 37 88 H.length 37 88 = H.length := qu_s _ _ _ _
  have e5 : qu (zm S) 37 90 W.length 37 88 = H.length + 2 := by rw [qu_i _ _ _ _ _ (by decide), h2, hl]
  have f0 : qfr [95, 96, 97, 98, 99] [83, 88, 90] (zm S) (qu (qu (zm S) 37 90 W.length) 37 88 H.length) := qfr_t' (qfr_j _ _ _ (by decide)) (qfr_j (A := [95, 96, 97, 98, 99]) (J := [83, 88, 90]) _ _ _ (by decide)) (fun _ h => h) fun _ h => h
  obtain ⟨m', r1, p1, p2, p3, p4, f1⟩ := r_grows e (qW S (qu (qu (zm S) 37 90 W.length) 37 88 H.length)) b w l r H W (by omega) hK (qP_fr hP f0 (by decide)) ⟨by rw [qmW, e2 83 (by decide) (by decide), h1], e4, e1, qA_o (qA_l h4) (e3 98 (by decide)), qA_o (qA_l h5) (e3 99 (by decide))⟩ hb (by omega) hw
  refine ⟨m', ?_, p1, p2, p3, p4, qfr_t' f0 f1.1 (fun _ h => h) fun _ h => h, fun a i a1 a2 i1 => by rw [f1.2 a i a1 a2 i1, qmW, e3 a (by omega)]⟩
  simp (config := { maxSteps := 2000000 }) (disch := first | omega | (simp only [K_37 hK, K_99 hK, P_37_89 hP, K_98 hK, P_37_87 hP, e1, e4, e5, e2, e3, P_37_89 hP, P_37_87 hP, q32, qb_in, qkW, qmW, qnW, true_and, and_true, or_self, true_or, or_true, and_self]; done) | (simp only [K_37 hK, K_99 hK, P_37_89 hP, K_98 hK, P_37_87 hP, e1, e4, e5, e2, e3, P_37_89 hP, P_37_87 hP, q32, qb_in, qkW, qmW, qnW, true_and, and_true, or_self, true_or, or_true, and_self]; omega)) only [zD_239, b239_0, b239_16, b239_34, b239_50, b239_53, qcall_l, qcall_r, qretn_l, qJ_s, qJ_n, qV0, qEx, ↓qif0, ↓zchk_pos, ↓reduceIte, qput, qWW, qmW, qkW, qnW, K_37 hK, K_99 hK, P_37_89 hP, K_98 hK, P_37_87 hP, h2, h3, hl, hlw, q32, show (W.length : Int) + 1 - 1 = W.length by omega, show (H.length : Int) + 2 - 2 = H.length by omega, e5, e1, e4, e2, e3, P_37_89 hP, P_37_87 hP, g1, g2, g3, r1]
