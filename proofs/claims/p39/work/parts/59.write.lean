/-! The class writes a word. -/
theorem qnth_x {K W : List Int} (h : K.length = W.length) (g : ∀ i : Int, 0 ≤ i → i < (K.length : Int) → qnth K i = qnth W i) : K = W := by
  refine List.ext_getElem h fun i h1 h2 => ?_
  have := g i (by omega) (by omega)
  unfold qnth at this
  rw [List.getD_eq_getElem?_getD, List.getD_eq_getElem?_getD, show ((i : Int)).toNat = i by omega, List.getElem?_eq_getElem h1, List.getElem?_eq_getElem h2] at this
  exact this
/-- cells of single letters, of digits -/
def qlt (ws : Int → Int) : Nat → List (Int × Int)
  | 0 => []
  | i + 1 => qlt ws i ++ [(qlc (ws i), (i : Int) + 1)]
def qdt (ws : Int → Int) : Nat → List (Int × Int)
  | 0 => []
  | i + 1 => qdt ws i ++ [(qlc (if ws i = 0 then 9 else ws i - 1), (i : Int) + 1)]
theorem qlt_l (ws : Int → Int) : ∀ i : Nat, (qlt ws i).length = i := by
  intro i
  induction i with
  | zero => rfl
  | succ i ih => rw [qlt, List.length_append, ih]; rfl
theorem qdt_l (ws : Int → Int) : ∀ i : Nat, (qdt ws i).length = i := by
  intro i
  induction i with
  | zero => rfl
  | succ i ih => rw [qdt, List.length_append, ih]; rfl
theorem qlt_e (ws : Int → Int) : ∀ (i : Nat), ∀ x ∈ qlt ws i, 0 < x.2 ∧ x.2 ≤ i := by
  intro i
  induction i with
  | zero => intro x h; simp [qlt] at h
  | succ i ih =>
    intro x h
    rcases List.mem_append.mp h with q | q
    · have := ih x q
      omega
    · rw [List.mem_singleton.mp q]
      show 0 < (i : Int) + 1 ∧ (i : Int) + 1 ≤ _
      omega
theorem qdt_e (ws : Int → Int) : ∀ (i : Nat), ∀ x ∈ qdt ws i, 0 < x.2 ∧ x.2 ≤ i := by
  intro i
  induction i with
  | zero => intro x h; simp [qdt] at h
  | succ i ih =>
    intro x h
    rcases List.mem_append.mp h with q | q
    · have := ih x q
      omega
    · rw [List.mem_singleton.mp q]
      show 0 < (i : Int) + 1 ∧ (i : Int) + 1 ≤ _
      omega
theorem qct_l (T : Int → Int → Int) (ws best : Int → Int) (n : Int) (hb : ∀ i, 0 ≤ i → i < n → best i = -1) : ∀ (f : Nat) (at_ : Nat), (at_ : Int) ≤ n → n ≤ at_ + f → qlt ws at_ ++ qct T ws best n f at_ = qlt ws n.toNat := by
  intro f
  induction f with
  | zero =>
    intro at_ h1 h2
    rw [qct, List.append_nil, show at_ = n.toNat by omega]
  | succ f ih =>
    intro at_ h1 h2
    rw [qct]
    by_cases c : n ≤ at_
    · rw [if_pos c, List.append_nil, show at_ = n.toNat by omega]
    · rw [if_neg c]
      have e := hb at_ (by omega) (by omega)
      rw [e, ← List.append_assoc]
      have := ih (at_ + 1) (by omega) (by omega)
      exact this
theorem qcu_l (T : Int → Int → Int) (best : Int → Int) (n : Int) (hb : ∀ i, 0 ≤ i → i < n → best i = -1) : ∀ (f : Nat) (at_ u : Int), 0 ≤ at_ → qcu T best n f at_ u = u := by
  intro f
  induction f with
  | zero => intro _ _ _; rfl
  | succ f ih =>
    intro at_ u h
    rw [qcu]
    by_cases c : n ≤ at_
    · rw [if_pos c]
    · rw [if_neg c, hb at_ h (by omega)]
      exact ih (at_ + 1) u (by omega)
/-- letters, as they are contracted -/
noncomputable def qC1 (T : Int → Int → Int) (N g : Int) (W : List Int) (P : Int) : List (Int × Int) := qct T (qnth W) (qbw T N g (qnth W) P W.length) W.length W.length 0
noncomputable def qU1 (T : Int → Int → Int) (N g : Int) (W : List Int) (P : Int) : Int := qcu T (qbw T N g (qnth W) P W.length) W.length W.length 0 0
def qwOK (T : Int → Int → Int) (N g : Int) (W : List Int) (P : Int) : Prop := qrd T (qnth ((qC1 T N g W P).map Prod.fst)) (qbr T N g (qnth ((qC1 T N g W P).map Prod.fst)) (qC1 T N g W P).length) (qC1 T N g W P).length (qC1 T N g W P).length 0 [] = some W
noncomputable def qwM (T : Int → Int → Int) (N g : Int) (W : List Int) (P dg : Int) : Int := if dg = 1 then 0 else 1 - qc (qwOK T N g W P)
noncomputable def qwC (T : Int → Int → Int) (N g : Int) (W : List Int) (P dg : Int) : List (Int × Int) := if dg = 1 then qdt (qnth W) W.length else if qwM T N g W P dg = 0 then qC1 T N g W P else qlt (qnth W) W.length
noncomputable def qwU (T : Int → Int → Int) (N g : Int) (W : List Int) (P dg : Int) : Int := if dg = 1 then 0 else if qwM T N g W P dg = 0 then qU1 T N g W P else 0
def qpre (st bg : Int) : List Int := (if st = 0 then [] else [40]) ++ List.replicate bg.toNat 32
noncomputable def qwS (T : Int → Int → Int) (N g : Int) (W : List Int) (P dg st bg : Int) : List Int := qpre st bg ++ if dg = 1 then [60] else if qwM T N g W P dg = 0 then [] else [48]
noncomputable def qwL (T : Int → Int → Int) (N g : Int) (W : List Int) (P dg st bg mk : Int) : List Int := qwS T N g W P dg st bg ++ (qwC T N g W P dg).map Prod.fst ++ if mk = 0 then [] else [mk]
noncomputable def qwE (T : Int → Int → Int) (N g : Int) (W : List Int) (P dg st bg : Int) : List Int := (qpl P W.length W.length).map fun p => (qwS T N g W P dg st bg).length + qcc (qwC T N g W P dg) p
theorem qct_n {T : Int → Int → Int} {N g P n : Int} {ws : Int → Int} (hN : 0 ≤ N) (hT : qTok T N) (hn : n ≤ 10) : ∀ (f : Nat) (at_ : Int), 0 ≤ at_ → ((qct T ws (qbw T N g ws P n) n f at_).length : Int) ≤ (if n ≤ at_ then 0 else n - at_) ∧ (f ≠ 0 → at_ < n → 0 < (qct T ws (qbw T N g ws P n) n f at_).length) ∧ (∀ x ∈ qct T ws (qbw T N g ws P n) n f at_, at_ < x.2 ∧ x.2 ≤ n) := by
  intro f
  induction f with
  | zero =>
    intro at_ h
    refine ⟨?_, fun q => absurd rfl q, fun x hx => by simp [qct] at hx⟩
    show (0 : Int) ≤ _
    split <;> omega
  | succ f ih =>
    intro at_ h
    rw [qct]
    by_cases c : n ≤ at_
    · rw [if_pos c, if_pos c]
      exact ⟨Int.le_refl _, fun _ q => by omega, fun x hx => by simp at hx⟩
    · rw [if_neg c, if_neg c]
      obtain ⟨X1, X2, X3, X4⟩ := qbw_x (g := g) (ws := ws) (P := P) (n := n) (at_ := at_) hN hT ⟨h, by omega, hn⟩
      obtain ⟨E1, E2, E3, E4⟩ := qEn_s P n at_ ⟨h, by omega, hn⟩
      have e0 : 0 < (qsc T ws (qbw T N g ws P n at_) at_).length := by
        unfold qsc
        split
        · exact Nat.succ_pos _
        · split <;> exact Nat.succ_pos _
      obtain ⟨I1, I2, I3⟩ := ih (qnxt T (qbw T N g ws P n at_) at_) (by omega)
      refine ⟨?_, fun _ _ => by rw [List.length_append]; omega, fun x hx => ?_⟩
      · rw [List.length_append]
        split at I1 <;> omega
      · rcases List.mem_append.mp hx with q | q
        · have := X4 x q
          omega
        · have := I3 x q
          omega
theorem qC1_n {T : Int → Int → Int} {N g P : Int} {W : List Int} (hN : 0 ≤ N) (hT : qTok T N) (hn : W.length ≤ 10) : (qC1 T N g W P).length ≤ W.length ∧ (0 < W.length → 0 < (qC1 T N g W P).length) ∧ (∀ x ∈ qC1 T N g W P, 0 < x.2 ∧ x.2 ≤ W.length) := by
  obtain ⟨a, b, c⟩ := qct_n (g := g) (P := P) (n := W.length) (ws := qnth W) hN hT (by omega) W.length 0 (Int.le_refl _)
  refine ⟨?_, fun h => b (by omega) (by omega), c⟩
  unfold qC1
  split at a <;> omega
theorem s_areReadAs (d : Nat) (S : zS) (a N g sw sb w b c ra rb bg mk con P : Int) (T : Int → Int → Int) (W L0 E : List Int) (st1 dg1 bg1 mk1 : Int) (h : 7 ≤ d) (hK : qK S) (hL : qLt (zm S)) (ha : qCo S a N T) (hT : qTok T N) (hka : qSk S sw sb) (hsa : qSq (zm S) sw sb W st1 dg1 bg1 mk1) (hW : 0 < W.length ∧ W.length ≤ 10)
    (hk : qWk S w b c) (hp : qWp (zm S) w b c (L0 ++ (qC1 T N g W P).map Prod.fst) mk con E) (hl : L0.length ≤ 5) (hb : bg = L0.length) (hra : zm S a 3 = ra) (hks : qSk S ra rb) (hs : zm S ra 0 = rb) (hne : sw ≠ ra ∧ sb ≠ rb) :
    ∃ m', zD d 21 [vr a, vr sw, vr w, vi bg, vi g] S = some (.inl (some (vi (qc (qwOK T N g W P)))), qW S m') ∧ qfs ra rb (zm S) m' := by
  obtain ⟨e, rfl, h1⟩ := qd h
  have hN := ha.2.2.2.1
  obtain ⟨c1, c2, -⟩ := qC1_n (g := g) (P := P) hN.1 hT hW.2
  have c2 := c2 hW.1
  have a1 := ha.1
  have w1 := hk.1
  have pl := hp.2.2.1
  rw [List.length_append, List.length_map] at pl
  subst hb
  generalize hC : qC1 T N g W P = C at hp c1 c2 pl
  obtain ⟨m1, v, r1, f1, p1⟩ := s_readLetters e S a N g w b c L0.length (L0.length + C.length) ra rb mk con _ _ _ _ T (L0 ++ C.map Prod.fst) E (qnth (C.map Prod.fst)) h1 hK hL ha hT hk hp (by rw [List.length_append, List.length_map]; omega) (fun j j1 j2 => by
    rw [qnth_r _ _ _ (by omega)]
    congr 1
    omega) hks ⟨hs, rfl, rfl, rfl, rfl⟩
  rw [show (L0.length : Int) + C.length - L0.length = C.length by omega] at p1
  rw [show ((C.length : Int)).toNat = C.length by omega] at p1
  have pl2 : zm S w 1 = (L0.length : Int) + C.length := by omega
  obtain ⟨s1, s2⟩ := hka
  obtain ⟨t1, t2⟩ := hks
  have g1 : m1 a = zm S a := f1.1 a (qkne a1 t1 (by decide)) (qkne a1 t2 (by decide))
  have g2 : m1 sw = zm S sw := f1.1 sw hne.1 (qkne s1 t2 (by decide))
  have g3 : m1 sb = zm S sb := f1.1 sb (qkne s2 t1 (by decide)) hne.2
  rcases p1 with ⟨rfl, -, K, hK1, hK2, hK3⟩ | ⟨rfl, hv⟩
  · obtain ⟨q0, q1, -, -, -, -, q6⟩ := hK3
    obtain ⟨y0, y1, -, -, -, -, y6⟩ := hsa
    obtain ⟨u, ru, hu, gu⟩ := s_areSame e (qW S m1) rb sb K.length W.length 10 10 (by omega) t2 s2 (by omega)
    have e0 : qc (qwOK T N g W P) = u := by
      have e1 : qwOK T N g W P ↔ u = 1 := by
        rw [gu]
        unfold qwOK
        rw [hC, hK1]
        constructor
        · intro z
          have z : K = W := by simpa using z
          subst z
          refine ⟨rfl, fun i i1 i2 => ?_⟩
          rw [qmW, g3, qA_n q6 i i1 i2, qA_n y6 i i1 i2]
        · intro z
          rw [qnth_x (K := K) (W := W) (by have := z.1; omega) fun i i1 i2 => by
            have := z.2 i i1 i2
            rw [qmW, g3, qA_n q6 i i1 i2, qA_n y6 i i1 (by have := z.1; omega)] at this
            exact this]
      rcases hu with hu | hu
      · rw [qc_n fun z => by have := e1.mp z; omega, hu]
      · rw [qc_p (e1.mpr hu), hu]
    refine ⟨m1, ?_, f1⟩
    rw [e0]
    rcases hu with hu | hu
    · rw [hu] at ru ⊢
      simp (config := { maxSteps := 2000000 }) (disch := first | omega | (simp only [a1, w1, s1, t1, hra, g1, g2, qb_in, qkW, qmW, qnW, true_and, and_true, or_self, true_or, or_true, and_self]; done) | (simp only [a1, w1, s1, t1, hra, g1, g2, qb_in, qkW, qmW, qnW, true_and, and_true, or_self, true_or, or_true, and_self]; omega)) only [zD_21, b21_0, b21_16, b21_19, b21_41, b21_44, b21_47, b21_51, b21_52, qcall_l, qcall_r, qretn_l, qJ_s, qJ_n, qV0, qEx, ↓qif0, ↓zchk_pos, ↓reduceIte, qput, qWW, qmW, qkW, qnW, a1, w1, s1, t1, hra, pl2, r1, g1, g2, q0, q1, y0, y1, ru, Int.reduceEq, Int.reduceLE, true_and, and_self]
    · rw [hu] at ru ⊢
      simp (config := { maxSteps := 2000000 }) (disch := first | omega | (simp only [a1, w1, s1, t1, hra, g1, g2, qb_in, qkW, qmW, qnW, true_and, and_true, or_self, true_or, or_true, and_self]; done) | (simp only [a1, w1, s1, t1, hra, g1, g2, qb_in, qkW, qmW, qnW, true_and, and_true, or_self, true_or, or_true, and_self]; omega)) only [zD_21, b21_0, b21_16, b21_19, b21_41, b21_44, b21_47, b21_51, b21_52, qcall_l, qcall_r, qretn_l, qJ_s, qJ_n, qV0, qEx, ↓qif0, ↓zchk_pos, ↓reduceIte, qput, qWW, qmW, qkW, qnW, a1, w1, s1, t1, hra, pl2, r1, g1, g2, q0, q1, y0, y1, ru, Int.reduceEq, Int.reduceLE, true_and, and_self]
  · refine ⟨m1, ?_, f1⟩
    rw [qc_n fun z => by
      unfold qwOK at z
      rw [hC] at z
      have := hv (by omega) W z
      omega]
    simp (config := { maxSteps := 2000000 }) (disch := first | omega | (simp only [a1, w1, qb_in, qkW, qmW, qnW, true_and, and_true, or_self, true_or, or_true, and_self]; done) | (simp only [a1, w1, qb_in, qkW, qmW, qnW, true_and, and_true, or_self, true_or, or_true, and_self]; omega)) only [zD_21, b21_0, b21_16, b21_19, b21_41, b21_44, b21_47, b21_51, b21_52, qcall_l, qcall_r, qretn_l, qJ_s, qJ_n, qV0, qEx, ↓qif0, ↓zchk_pos, ↓reduceIte, qput, qWW, qmW, qkW, qnW, a1, w1, hra, pl2, r1, Int.reduceEq, Int.reduceLE, true_and, and_self]
theorem s_writeDigits (d : Nat) (S : zS) (sw sb w b c mk con st dg bg mk2 : Int) (W L0 : List Int) (h : 3 ≤ d) (hK : qK S) (hL : qLt (zm S)) (hka : qSk S sw sb) (hsa : qSq (zm S) sw sb W st dg bg mk2) (hW : 0 < W.length ∧ W.length ≤ 10) (hWr : ∀ i, 0 ≤ i → i < (W.length : Int) → 0 ≤ qnth W i ∧ qnth W i ≤ 9)
    (hk : qWk S w b c) (hp : qWp (zm S) w b c L0 mk con []) (hl : L0.length ≤ 4) :
    ∃ m', zD d 20 [vr sw, vr w] S = some (.inl none, qW S m') ∧ qWp m' w b c (L0 ++ [60] ++ (qdt (qnth W) W.length).map Prod.fst) mk con [(L0.length : Int) + 1 + W.length] ∧ qfw w b c (zm S) m' := by
  obtain ⟨e, rfl, h1⟩ := qd h
  obtain ⟨s1, s2⟩ := hka
  obtain ⟨w1, w2, w3, n1, n2, n3⟩ := hk
  have hk : qWk S w b c := ⟨w1, w2, w3, n1, n2, n3⟩
  obtain ⟨y0, y1, -, -, -, -, y6⟩ := hsa
  obtain ⟨m0, r0, p0, f0⟩ := s_wrAppend e S w b c mk con 60 L0 [] (by omega) hk hp (by omega)
  have lp : ∀ (f i : Nat) (m : Int → Int → Int), i + f = W.length → qfw w b c (zm S) m → qWp m w b c (L0 ++ [60] ++ (qdt (qnth W) i).map Prod.fst) mk con [] →
      ∃ m', zF_20 e 8 [vr sw, vr w, vi (i : Int)] [] (qW S m) = some (.inl none, qW S m') ∧ qWp m' w b c (L0 ++ [60] ++ (qdt (qnth W) W.length).map Prod.fst) mk con [(L0.length : Int) + 1 + W.length] ∧ qfw w b c (zm S) m' := by
    intro f
    induction f with
    | zero =>
      intro i m h2 hf hp
      have e1 : m sw = zm S sw := hf sw (qkne s1 w1 (by decide)) (qkne s1 w2 (by decide)) (qkne s1 w3 (by decide))
      obtain ⟨m1, r1, p1, f1⟩ := s_wrEndPart e (qW S m) w b c mk con _ _ (by omega) hk hp (by decide)
      have hi : i = W.length := by omega
      subst hi
      rw [b20_8]
      refine ⟨m1, ?_, ?_, qfw_t hf f1⟩
      · simp (config := { maxSteps := 2000000 }) (disch := first | omega | (simp only [s1, w1, qb_in, qkW, qmW, qnW, true_and, and_true, or_self, true_or, or_true, and_self]; done) | (simp only [s1, w1, qb_in, qkW, qmW, qnW, true_and, and_true, or_self, true_or, or_true, and_self]; omega)) only [b20_0, b20_6, b20_16, b20_26, b20_29, b20_35, b20_39, qcall_l, qcall_r, qretn_l, qJ_s, qJ_n, qV0, qEx, ↓qif0, ↓zchk_pos, ↓reduceIte, qput, qWW, qmW, qkW, qnW, s1, w1, e1, y1, Int.lt_irrefl, r1]
      · rw [List.length_append, List.length_append, List.length_map, qdt_l] at p1
        exact p1
    | succ f ih =>
      intro i m h2 hf hp
      have e1 : m sw = zm S sw := hf sw (qkne s1 w1 (by decide)) (qkne s1 w2 (by decide)) (qkne s1 w3 (by decide))
      have e2 : m sb = zm S sb := hf sb (qkne s2 w1 (by decide)) (qkne s2 w2 (by decide)) (qkne s2 w3 (by decide))
      have e3 : m 2 = zm S 2 := hf 2 (qkne (K_2 hK) w1 (by decide)) (qkne (K_2 hK) w2 (by decide)) (qkne (K_2 hK) w3 (by decide))
      have g1 := qA_n y6 i (by omega) (by omega)
      have g2 := hWr i (by omega) (by omega)
      have dc := s_digitCell e (qW S m) (qnth W i) (by omega) (by omega) hK (fun q hq => by rw [qmW, e3]; exact hL q hq)
      obtain ⟨m1, r1, p1, f1⟩ := s_wrAppend e (qW S m) w b c mk con (qlc (if qnth W i = 0 then 9 else qnth W i - 1)) _ _ (by omega) hk hp (by rw [List.length_append, List.length_append, List.length_map, qdt_l]; show L0.length + 1 + i < 16; omega)
      rw [b20_8]
      simp (config := { maxSteps := 2000000 }) (disch := first | omega | (simp only [s1, s2, w1, e1, y0, qb_in, qkW, qmW, qnW, true_and, and_true, or_self, true_or, or_true, and_self]; done) | (simp only [s1, s2, w1, e1, y0, qb_in, qkW, qmW, qnW, true_and, and_true, or_self, true_or, or_true, and_self]; omega)) only [b20_0, b20_6, b20_16, b20_26, b20_29, b20_35, b20_39, qcall_l, qcall_r, qretn_l, qJ_s, qJ_n, qV0, qEx, ↓qif0, ↓zchk_pos, ↓reduceIte, qput, qWW, qmW, qkW, qnW, s1, s2, w1, e1, e2, y0, y1, g1, if_pos (show (i : Int) < W.length by omega), dc, r1, q32]
      refine ih (i + 1) m1 (by omega) (qfw_t hf f1) ?_
      rw [qdt, List.map_append, ← List.append_assoc]
      exact p1
  obtain ⟨m', r, p, f⟩ := lp W.length 0 m0 (by omega) f0 (by rw [qdt, List.map_nil, List.append_nil]; exact p0)
  refine ⟨m', ?_, p, f⟩
  simp (config := { maxSteps := 2000000 }) (disch := first | omega | (simp only [w1, qb_in, qkW, qmW, qnW, true_and, and_true, or_self, true_or, or_true, and_self]; done) | (simp only [w1, qb_in, qkW, qmW, qnW, true_and, and_true, or_self, true_or, or_true, and_self]; omega)) only [zD_20, b20_0, b20_6, b20_16, b20_26, b20_29, b20_35, b20_39, qcall_l, qcall_r, qretn_l, qJ_s, qJ_n, qV0, qEx, ↓qif0, ↓zchk_pos, ↓reduceIte, qput, qWW, qmW, qkW, qnW, w1, r0]
  exact r
theorem qDo_g {S : zS} {a P n : Int} {m' : Int → Int → Int} (ha : qDo S a P n) (hf : a ≠ 0 → m' a = zm S a ∧ m' (zm S a 2) = zm S (zm S a 2)) : qDo (qW S m') a P n := by
  rcases ha with ha | ⟨h0, k1, p1, k2, b1, g1, g2, g3, g4⟩
  · exact Or.inl ha
  · obtain ⟨e1, e2⟩ := hf h0
    refine Or.inr ⟨h0, ?_⟩
    show zk S a = _ ∧ m' a 1 = _ ∧ zk S (m' a 2) = _ ∧ (1 ≤ m' a 3 ∧ m' a 3 ≤ 4) ∧ (∀ j, 0 ≤ j → j < m' a 3 → 0 < m' (m' a 2) j ∧ m' (m' a 2) j ≤ n ∧ qbt P (m' (m' a 2) j) = 1) ∧ (∀ j, 0 ≤ j → j + 1 < m' a 3 → m' (m' a 2) j < m' (m' a 2) (j + 1)) ∧ m' (m' a 2) (m' a 3 - 1) = n ∧ (∀ p, 0 ≤ p → p < n → qbt P p = 1 → ∃ j, 0 ≤ j ∧ j < m' a 3 ∧ m' (m' a 2) j = p)
    rw [e1, e2]
    exact ⟨k1, p1, k2, b1, g1, g2, g3, g4⟩
def qf5 (w b c ra rb : Int) (m m' : Int → Int → Int) : Prop := (∀ x, x ≠ w → x ≠ b → x ≠ c → x ≠ ra → x ≠ rb → m' x = m x) ∧ m' ra 0 = m ra 0
theorem qf5_r (w b c ra rb : Int) (m : Int → Int → Int) : qf5 w b c ra rb m m := ⟨fun _ _ _ _ _ _ => rfl, rfl⟩
theorem qf5_w {w b c ra rb : Int} {m m1 m2 : Int → Int → Int} (hr : ra ≠ w ∧ ra ≠ b ∧ ra ≠ c) (h : qf5 w b c ra rb m m1) (g : qfw w b c m1 m2) : qf5 w b c ra rb m m2 := ⟨fun x h1 h2 h3 h4 h5 => (g x h1 h2 h3).trans (h.1 x h1 h2 h3 h4 h5), by rw [g ra hr.1 hr.2.1 hr.2.2]; exact h.2⟩
theorem qf5_s {w b c ra rb : Int} {m m1 m2 : Int → Int → Int} (h : qf5 w b c ra rb m m1) (g : qfs ra rb m1 m2) : qf5 w b c ra rb m m2 := ⟨fun x h1 h2 h3 h4 h5 => (g.1 x h4 h5).trans (h.1 x h1 h2 h3 h4 h5), g.2.trans h.2⟩
theorem s_write (d : Nat) (S : zS) (a N g sw sb w b c D P ra rb mk st dg bg : Int) (T : Int → Int → Int) (W : List Int) (h : 8 ≤ d) (hK : qK S) (hL : qLt (zm S)) (ha : qCo S a N T) (hT : qTok T N) (hka : qSk S sw sb) (hsa : qSq (zm S) sw sb W st dg bg mk) (hW : 0 < W.length ∧ W.length ≤ 10) (hst : st = 0 ∨ st = 1) (hdg : dg = 0 ∨ dg = 1 ∧ bg = 0 ∧ P = 0 ∧ ∀ i, 0 ≤ i → i < (W.length : Int) → 0 ≤ qnth W i ∧ qnth W i ≤ 9) (hbg : 0 ≤ bg ∧ bg ≤ 2)
    (hD : qDo S D P W.length) (hDc : D ≠ 0 → zm S D 2 ≠ c) (h4 : (qpl P W.length W.length).length ≤ 4) (hk : qWk S w b c) (hw0 : zm S w 0 = b ∧ zm S w 4 = c) (hra : zm S a 3 = ra) (hks : qSk S ra rb) (hs : zm S ra 0 = rb) (hne : sw ≠ ra ∧ sb ≠ rb) :
    ∃ m', zD d 19 [vr a, vr sw, vr D, vi g, vr w] S = some (.inl none, qW S m') ∧ qWp m' w b c (qwL T N g W P dg st bg mk) (qwM T N g W P dg) (qwU T N g W P dg) (qwE T N g W P dg st bg) ∧ qf5 w b c ra rb (zm S) m' := by
  obtain ⟨e, rfl, h1⟩ := qd h
  have hN := ha.2.2.2.1
  have a1 := ha.1
  obtain ⟨s1, s2⟩ := hka
  have hka : qSk S sw sb := ⟨s1, s2⟩
  obtain ⟨w1, w2, w3, n1, n2, n3⟩ := hk
  have hk : qWk S w b c := ⟨w1, w2, w3, n1, n2, n3⟩
  obtain ⟨t1, t2⟩ := hks
  have hks : qSk S ra rb := ⟨t1, t2⟩
  obtain ⟨y0, y1, y2, y3, y4, y5, y6⟩ := hsa
  have hr3 : ra ≠ w ∧ ra ≠ b ∧ ra ≠ c := ⟨qkne t1 w1 (by decide), qkne t1 w2 (by decide), qkne t1 w3 (by decide)⟩
  -- what does not change
  have fsw : ∀ m, qf5 w b c ra rb (zm S) m → m sw = zm S sw := fun m hf => hf.1 sw (qkne s1 w1 (by decide)) (qkne s1 w2 (by decide)) (qkne s1 w3 (by decide)) hne.1 (qkne s1 t2 (by decide))
  have fsb : ∀ m, qf5 w b c ra rb (zm S) m → m sb = zm S sb := fun m hf => hf.1 sb (qkne s2 w1 (by decide)) (qkne s2 w2 (by decide)) (qkne s2 w3 (by decide)) (qkne s2 t1 (by decide)) hne.2
  have fa : ∀ m, qf5 w b c ra rb (zm S) m → m a = zm S a := fun m hf => hf.1 a (qkne a1 w1 (by decide)) (qkne a1 w2 (by decide)) (qkne a1 w3 (by decide)) (qkne a1 t1 (by decide)) (qkne a1 t2 (by decide))
  have f2 : ∀ m, qf5 w b c ra rb (zm S) m → qLt m := fun m hf q hq => by
    rw [hf.1 2 (qkne (K_2 hK) w1 (by decide)) (qkne (K_2 hK) w2 (by decide)) (qkne (K_2 hK) w3 (by decide)) (qkne (K_2 hK) t1 (by decide)) (qkne (K_2 hK) t2 (by decide))]
    exact hL q hq
  have fco : ∀ m, qf5 w b c ra rb (zm S) m → qCo (qW S m) a N T := fun m hf => qCo_k ha fun x hx => hf.1 x (fun q => by rw [q, w1] at hx; revert hx; decide) (fun q => by rw [q, w2] at hx; revert hx; decide) (fun q => by rw [q, w3] at hx; revert hx; decide) (fun q => by rw [q, t1] at hx; revert hx; decide) (fun q => by rw [q, t2] at hx; revert hx; decide)
  have fdo : ∀ m, qf5 w b c ra rb (zm S) m → qDo (qW S m) D P W.length := fun m hf => qDo_g hD fun h0 => by
    rcases hD with hD | ⟨-, k1, p1, k2, -⟩
    · exact absurd hD.1 h0
    · exact ⟨hf.1 D (qkne k1 w1 (by decide)) (qkne k1 w2 (by decide)) (qkne k1 w3 (by decide)) (qkne k1 t1 (by decide)) (qkne k1 t2 (by decide)), hf.1 _ (qkne k2 w1 (by decide)) (qkne k2 w2 (by decide)) (hDc h0) (qkne k2 t1 (by decide)) (qkne k2 t2 (by decide))⟩
  have fdc : ∀ m, qf5 w b c ra rb (zm S) m → D ≠ 0 → zm (qW S m) D 2 ≠ c := fun m hf h0 => by
    rcases hD with hD | ⟨-, k1, p1, k2, -⟩
    · exact absurd hD.1 h0
    · rw [qmW, hf.1 D (qkne k1 w1 (by decide)) (qkne k1 w2 (by decide)) (qkne k1 w3 (by decide)) (qkne k1 t1 (by decide)) (qkne k1 t2 (by decide))]
      exact hDc h0
  have fsq : ∀ m, qf5 w b c ra rb (zm S) m → qSq m sw sb W st dg bg mk := fun m hf => ⟨by rw [fsw m hf]; exact y0, by rw [fsw m hf]; exact y1, by rw [fsw m hf]; exact y2, by rw [fsw m hf]; exact y3, by rw [fsw m hf]; exact y4, by rw [fsw m hf]; exact y5, qA_o y6 (fsb m hf)⟩
  -- the mark
  have hm : ∀ (m : Int → Int → Int) (L E : List Int) (M con : Int) (x0 x2 x3 x5 : zV), qf5 w b c ra rb (zm S) m → qWp m w b c L M con E → L.length ≤ 15 →
      ∃ m', zF_19 e 105 [x0, vr sw, x2, x3, vr w, x5] [] (qW S m) = some (.inl none, qW S m') ∧ qWp m' w b c (L ++ if mk = 0 then [] else [mk]) M con E ∧ qf5 w b c ra rb (zm S) m' := by
    intro m L E M con x0 x2 x3 x5 hf hp hl
    rw [b19_105]
    by_cases c0 : mk = 0
    · refine ⟨m, ?_, by rw [if_pos c0, List.append_nil]; exact hp, hf⟩
      simp (config := { maxSteps := 2000000 }) (disch := first | omega | (simp only [s1, qb_in, qkW, qmW, qnW, true_and, and_true, or_self, true_or, or_true, and_self]; done) | (simp only [s1, qb_in, qkW, qmW, qnW, true_and, and_true, or_self, true_or, or_true, and_self]; omega)) only [b19_0, b19_5, b19_12, b19_19, b19_26, b19_32, b19_35, b19_47, b19_54, b19_60, b19_76, b19_86, b19_89, b19_96, b19_105, b19_112, b19_121, qcall_l, qcall_r, qretn_l, qJ_s, qJ_n, qV0, qEx, ↓qif0, ↓zchk_pos, ↓reduceIte, qput, qWW, qmW, qkW, qnW, s1, fsw m hf, y5, if_pos c0]
    · obtain ⟨m1, r1, p1, f1⟩ := s_wrAppend e (qW S m) w b c M con mk L E (by omega) hk hp (by omega)
      refine ⟨m1, ?_, by rw [if_neg c0]; exact p1, qf5_w hr3 hf f1⟩
      simp (config := { maxSteps := 2000000 }) (disch := first | omega | (simp only [s1, w1, qb_in, qkW, qmW, qnW, true_and, and_true, or_self, true_or, or_true, and_self]; done) | (simp only [s1, w1, qb_in, qkW, qmW, qnW, true_and, and_true, or_self, true_or, or_true, and_self]; omega)) only [b19_0, b19_5, b19_12, b19_19, b19_26, b19_32, b19_35, b19_47, b19_54, b19_60, b19_76, b19_86, b19_89, b19_96, b19_105, b19_112, b19_121, qcall_l, qcall_r, qretn_l, qJ_s, qJ_n, qV0, qEx, ↓qif0, ↓zchk_pos, ↓reduceIte, qput, qWW, qmW, qkW, qnW, s1, w1, fsw m hf, y5, if_neg c0, r1]
  -- letters
  have hpl : (qpre st bg).length ≤ 3 := by
    unfold qpre
    rw [List.length_append, List.length_replicate]
    split
    · show 0 + _ ≤ 3; omega
    · show 1 + _ ≤ 3; omega
  have en : ((W.length : Int)).toNat = W.length := by omega
  have w5 : ∀ {m : Int → Int → Int}, qfw w b c (zm S) m → qf5 w b c ra rb (zm S) m := fun hq => ⟨fun x h1 h2 h3 _ _ => hq x h1 h2 h3, by rw [hq ra hr3.1 hr3.2.1 hr3.2.2]⟩
  have hlet : ∀ (m : Int → Int → Int) (x5 : zV), dg = 0 → qfw w b c (zm S) m → qWp m w b c (qpre st bg) 0 0 [] →
      ∃ m', zF_19 e 60 [vr a, vr sw, vr D, vi g, vr w, x5] [] (qW S m) = some (.inl none, qW S m') ∧ qWp m' w b c (qwL T N g W P dg st bg mk) (qwM T N g W P dg) (qwU T N g W P dg) (qwE T N g W P dg st bg) ∧ qf5 w b c ra rb (zm S) m' := by
    intro m x5 hd0 hfw hp
    have hf := w5 hfw
    have hd1 : ¬ dg = 1 := by omega
    obtain ⟨m1, r1, p1, f1⟩ := s_contract e (qW S m) a N g sw sb w b c D P W.length 0 0 T (qnth W) (qpre st bg) (by omega) hK (f2 m hf) (fco m hf) hT s1 (by rw [qmW, fsw m hf]; exact y0) s2 (by rw [qmW, fsw m hf]; exact y1) (by omega) (fun j j1 j2 => by rw [qmW, fsb m hf]; exact qA_n y6 j j1 j2) (fdo m hf) (fdc m hf) hk hp (by omega) (by rw [en]; exact h4)
    rw [en] at p1
    have hfw1 := qfw_t hfw f1
    have hf1 := w5 hfw1
    have era : m1 ra = zm S ra := hfw1 ra (qkne t1 w1 (by decide)) (qkne t1 w2 (by decide)) (qkne t1 w3 (by decide))
    have erb : m1 rb = zm S rb := hfw1 rb (qkne t2 w1 (by decide)) (qkne t2 w2 (by decide)) (qkne t2 w3 (by decide))
    have hs1 : m1 ra 0 = rb := by rw [era]; exact hs
    obtain ⟨m2, r2, f3⟩ := s_areReadAs e (qW S m1) a N g sw sb w b c ra rb (qpre st bg).length 0 (qU1 T N g W P) P T W (qpre st bg) _ st dg bg mk h1 hK (f2 m1 hf1) (fco m1 hf1) hT hka (fsq m1 hf1) hW hk p1 (by omega) rfl (by rw [qmW, fa m1 hf1]; exact hra) hks hs1 hne
    have hf2 := qf5_s hf1 f3
    have ew : m2 w = m1 w := f3.1 w (qkne w1 t1 (by decide)) (qkne w1 t2 (by decide))
    have eb : m2 b = m1 b := f3.1 b (qkne w2 t1 (by decide)) (qkne w2 t2 (by decide))
    have ec : m2 c = m1 c := f3.1 c (qkne w3 t1 (by decide)) (qkne w3 t2 (by decide))
    have p2 := qWp_o p1 ew eb ec
    have hl1 := (qC1_n (g := g) (P := P) hN.1 hT hW.2).1
    have plen : m w 1 = (qpre st bg).length := hp.2.2.1
    by_cases c0 : qwOK T N g W P
    · have eM : qwM T N g W P dg = 0 := by unfold qwM; rw [if_neg hd1, qc_p c0]; rfl
      have eC : qwC T N g W P dg = qC1 T N g W P := by unfold qwC; rw [if_neg hd1, if_pos eM]
      have eU : qwU T N g W P dg = qU1 T N g W P := by unfold qwU; rw [if_neg hd1, if_pos eM]
      have eS : qwS T N g W P dg st bg = qpre st bg := by unfold qwS; rw [if_neg hd1, if_pos eM, List.append_nil]
      obtain ⟨m3, r3, p3, f4⟩ := hm m2 _ _ _ _ (vr a) (vr D) vu (vi (qpre st bg).length) hf2 p2 (by
        have : (qct T (qnth W) (qbw T N g (qnth W) P W.length) W.length W.length 0).length = (qC1 T N g W P).length := rfl
        rw [List.length_append, List.length_map]
        omega)
      rw [qc_p c0] at r2
      refine ⟨m3, ?_, ?_, f4⟩
      · rw [b19_60]
        simp (config := { maxSteps := 2000000 }) (disch := first | omega | (simp only [a1, w1, qb_in, qkW, qmW, qnW, true_and, and_true, or_self, true_or, or_true, and_self]; done) | (simp only [a1, w1, qb_in, qkW, qmW, qnW, true_and, and_true, or_self, true_or, or_true, and_self]; omega)) only [b19_0, b19_5, b19_12, b19_19, b19_26, b19_32, b19_35, b19_47, b19_54, b19_60, b19_76, b19_86, b19_89, b19_96, b19_112, b19_121, qcall_l, qcall_r, qretn_l, qJ_s, qJ_n, qV0, qEx, ↓qif0, ↓zchk_pos, ↓reduceIte, qput, qWW, qmW, qkW, qnW, a1, w1, plen, r1, r2, Int.reduceEq]
        exact r3
      · unfold qwL qwE
        rw [eM, eU, eC, eS]
        exact p3
    · have eM : qwM T N g W P dg = 1 := by unfold qwM; rw [if_neg hd1, qc_n c0]; rfl
      have eC : qwC T N g W P dg = qlt (qnth W) W.length := by unfold qwC; rw [if_neg hd1, if_neg (by omega)]
      have eU : qwU T N g W P dg = 0 := by unfold qwU; rw [if_neg hd1, if_neg (by omega)]
      have eS : qwS T N g W P dg st bg = qpre st bg ++ [48] := by unfold qwS; rw [if_neg hd1, if_neg (by omega)]
      obtain ⟨m3, r3, p3, f4⟩ := s_wrMarkFrom e (qW S m2) w b c 0 (qU1 T N g W P) (qpre st bg).length (qpre st bg) _ _ (by omega) hk p2 (by omega)
      have hf3 := qf5_w hr3 hf2 f4
      obtain ⟨m4, r4, p4, f5⟩ := s_contract e (qW S m3) a N (-1) sw sb w b c D P W.length 1 0 T (qnth W) (qpre st bg ++ [48]) (by omega) hK (f2 m3 hf3) (fco m3 hf3) hT s1 (by rw [qmW, fsw m3 hf3]; exact y0) s2 (by rw [qmW, fsw m3 hf3]; exact y1) (by omega) (fun j j1 j2 => by rw [qmW, fsb m3 hf3]; exact qA_n y6 j j1 j2) (fdo m3 hf3) (fdc m3 hf3) hk p3 (by rw [List.length_append]; show _ + 1 ≤ 5; omega) (by rw [en]; exact h4)
      rw [en] at p4
      have hf4 := qf5_w hr3 hf3 f5
      have hbl : ∀ i, 0 ≤ i → i < (W.length : Int) → qbw T N (-1) (qnth W) P W.length i = -1 := fun i _ _ => qbw_l hN.1 hT
      have el := qct_l T (qnth W) _ W.length hbl W.length 0 (by omega) (by omega)
      have eu := qcu_l T _ W.length hbl W.length 0 0 (by omega)
      rw [en, show qlt (qnth W) 0 = [] from rfl, List.nil_append] at el
      have el : qct T (qnth W) (qbw T N (-1) (qnth W) P W.length) W.length W.length 0 = qlt (qnth W) W.length := el
      rw [el, eu] at p4
      obtain ⟨m5, r5, p5, f6⟩ := hm m4 _ _ _ _ (vr a) (vr D) vu vu hf4 p4 (by
        rw [List.length_append, List.length_append, List.length_map, qlt_l]
        show _ + 1 + _ ≤ 15
        omega)
      rw [qc_n c0] at r2
      refine ⟨m5, ?_, ?_, f6⟩
      · rw [b19_60]
        simp (config := { maxSteps := 2000000 }) (disch := first | omega | (simp only [a1, w1, qb_in, qkW, qmW, qnW, true_and, and_true, or_self, true_or, or_true, and_self]; done) | (simp only [a1, w1, qb_in, qkW, qmW, qnW, true_and, and_true, or_self, true_or, or_true, and_self]; omega)) only [b19_0, b19_5, b19_12, b19_19, b19_26, b19_32, b19_35, b19_47, b19_54, b19_60, b19_76, b19_86, b19_89, b19_96, b19_112, b19_121, qcall_l, qcall_r, qretn_l, qJ_s, qJ_n, qV0, qEx, ↓qif0, ↓zchk_pos, ↓reduceIte, qput, qWW, qmW, qkW, qnW, a1, w1, plen, r1, r2, r3, r4, Int.reduceEq]
        exact r5
      · unfold qwL qwE
        rw [eM, eU, eC, eS]
        exact p5
  -- great letters
  have hbl : ∀ (f i : Nat) (m : Int → Int → Int), dg = 0 → (i : Int) + f = bg → qfw w b c (zm S) m → qWp m w b c (qpre st i) 0 0 [] →
      ∃ m', zF_19 e 38 [vr a, vr sw, vr D, vi g, vr w, vi i] [] (qW S m) = some (.inl none, qW S m') ∧ qWp m' w b c (qwL T N g W P dg st bg mk) (qwM T N g W P dg) (qwU T N g W P dg) (qwE T N g W P dg st bg) ∧ qf5 w b c ra rb (zm S) m' := by
    intro f
    induction f with
    | zero =>
      intro i m hd0 h2 hfw hp
      have hi : (i : Int) = bg := by omega
      rw [hi] at hp ⊢
      obtain ⟨m1, r1, p1, f1⟩ := hlet m (vi bg) hd0 hfw hp
      refine ⟨m1, ?_, p1, f1⟩
      rw [b19_38]
      simp (config := { maxSteps := 2000000 }) (disch := first | omega | (simp only [s1, qb_in, qkW, qmW, qnW, true_and, and_true, or_self, true_or, or_true, and_self]; done) | (simp only [s1, qb_in, qkW, qmW, qnW, true_and, and_true, or_self, true_or, or_true, and_self]; omega)) only [b19_0, b19_5, b19_12, b19_19, b19_26, b19_32, b19_35, b19_47, b19_54, b19_76, b19_86, b19_89, b19_96, b19_105, b19_112, b19_121, qcall_l, qcall_r, qretn_l, qJ_s, qJ_n, qV0, qEx, ↓qif0, ↓zchk_pos, ↓reduceIte, qput, qWW, qmW, qkW, qnW, s1, fsw m (w5 hfw), y4, Int.lt_irrefl]
      exact r1
    | succ f ih =>
      intro i m hd0 h2 hfw hp
      have hli : (qpre st i).length ≤ 10 := by
        unfold qpre
        rw [List.length_append, List.length_replicate]
        split
        · show 0 + _ ≤ 10; omega
        · show 1 + _ ≤ 10; omega
      obtain ⟨m1, r1, p1, f1⟩ := s_wrAppend e (qW S m) w b c 0 0 32 _ _ (by omega) hk hp (by omega)
      have ep : qpre st i ++ [32] = qpre st ((i + 1 : Nat) : Int) := by
        unfold qpre
        rw [List.append_assoc]
        congr 1
        rw [show (((i + 1 : Nat) : Int)).toNat = ((i : Int)).toNat + 1 by omega, List.replicate_succ']
      rw [ep] at p1
      rw [b19_38]
      simp (config := { maxSteps := 2000000 }) (disch := first | omega | (simp only [s1, w1, qb_in, qkW, qmW, qnW, true_and, and_true, or_self, true_or, or_true, and_self]; done) | (simp only [s1, w1, qb_in, qkW, qmW, qnW, true_and, and_true, or_self, true_or, or_true, and_self]; omega)) only [b19_0, b19_5, b19_12, b19_19, b19_26, b19_32, b19_35, b19_47, b19_54, b19_76, b19_86, b19_89, b19_96, b19_105, b19_112, b19_121, qcall_l, qcall_r, qretn_l, qJ_s, qJ_n, qV0, qEx, ↓qif0, ↓zchk_pos, ↓reduceIte, qput, qWW, qmW, qkW, qnW, s1, w1, fsw m (w5 hfw), y4, if_pos (show (i : Int) < bg by omega), r1, q32]
      exact ih (i + 1) m1 hd0 (by omega) (qfw_t hfw f1) p1
  -- from the star on
  have hstar : ∀ (m : Int → Int → Int), qfw w b c (zm S) m → qWp m w b c (if st = 0 then [] else [40]) 0 0 [] →
      ∃ m', zF_19 e 19 [vr a, vr sw, vr D, vi g, vr w, vu] [] (qW S m) = some (.inl none, qW S m') ∧ qWp m' w b c (qwL T N g W P dg st bg mk) (qwM T N g W P dg) (qwU T N g W P dg) (qwE T N g W P dg st bg) ∧ qf5 w b c ra rb (zm S) m' := by
    intro m hfw hp
    rw [b19_19]
    rcases hdg with hd0 | ⟨hd1, hb0, hP0, hWr⟩
    · have hp0 : qWp m w b c (qpre st ((0 : Nat) : Int)) 0 0 [] := by
        unfold qpre
        rw [show (((0 : Nat) : Int)).toNat = 0 from rfl, List.replicate_zero, List.append_nil]
        exact hp
      obtain ⟨m1, r1, p1, f1⟩ := hbl bg.toNat 0 m hd0 (by omega) hfw hp0
      refine ⟨m1, ?_, p1, f1⟩
      simp (config := { maxSteps := 2000000 }) (disch := first | omega | (simp only [s1, qb_in, qkW, qmW, qnW, true_and, and_true, or_self, true_or, or_true, and_self]; done) | (simp only [s1, qb_in, qkW, qmW, qnW, true_and, and_true, or_self, true_or, or_true, and_self]; omega)) only [b19_0, b19_5, b19_12, b19_19, b19_26, b19_32, b19_35, b19_47, b19_54, b19_76, b19_86, b19_89, b19_96, b19_105, b19_112, b19_121, qcall_l, qcall_r, qretn_l, qJ_s, qJ_n, qV0, qEx, ↓qif0, ↓zchk_pos, ↓reduceIte, qput, qWW, qmW, qkW, qnW, s1, fsw m (w5 hfw), y3, if_pos hd0]
      exact r1
    · have eM : qwM T N g W P dg = 0 := by unfold qwM; rw [if_pos hd1]
      have eC : qwC T N g W P dg = qdt (qnth W) W.length := by unfold qwC; rw [if_pos hd1]
      have eU : qwU T N g W P dg = 0 := by unfold qwU; rw [if_pos hd1]
      have eS : qwS T N g W P dg st bg = (if st = 0 then [] else [40]) ++ [60] := by
        unfold qwS qpre
        rw [if_pos hd1, hb0, show ((0 : Int)).toNat = 0 from rfl, List.replicate_zero, List.append_nil]
      have hl0 : (if st = 0 then ([] : List Int) else [40]).length ≤ 1 := by
        split <;> decide
      obtain ⟨m1, r1, p1, f1⟩ := s_writeDigits e (qW S m) sw sb w b c 0 0 st dg bg mk W _ (by omega) hK (f2 m (w5 hfw)) hka (fsq m (w5 hfw)) hW hWr hk hp (by omega)
      have hf1 := w5 (qfw_t hfw f1)
      obtain ⟨m2, r2, p2, f3⟩ := hm m1 _ _ _ _ vu vu vu vu hf1 p1 (by rw [List.length_append, List.length_append, List.length_map, qdt_l]; show _ + 1 + _ ≤ 15; omega)
      refine ⟨m2, ?_, ?_, f3⟩
      · simp (config := { maxSteps := 2000000 }) (disch := first | omega | (simp only [s1, qb_in, qkW, qmW, qnW, true_and, and_true, or_self, true_or, or_true, and_self]; done) | (simp only [s1, qb_in, qkW, qmW, qnW, true_and, and_true, or_self, true_or, or_true, and_self]; omega)) only [b19_0, b19_5, b19_12, b19_19, b19_26, b19_32, b19_35, b19_47, b19_54, b19_76, b19_86, b19_89, b19_96, b19_112, b19_121, qcall_l, qcall_r, qretn_l, qJ_s, qJ_n, qV0, qEx, ↓qif0, ↓zchk_pos, ↓reduceIte, qput, qWW, qmW, qkW, qnW, s1, fsw m (w5 hfw), y3, if_neg (show ¬ dg = 0 by omega), r1]
        exact r2
      · unfold qwL qwE
        rw [eM, eU, eC, eS, hP0]
        have e1 : qpl 0 W.length W.length = [(W.length : Int)] := by
          have := qpl_j 0 W.length 0 W.length (by omega) fun i i1 i2 => ⟨qbt_0 i, by omega⟩
          rw [en, if_pos (Or.inr rfl)] at this
          exact this
        rw [e1, List.map_singleton, qcc_a _ _ fun x hx => (qdt_e _ _ x hx).2, qdt_l, List.length_append]
        exact p2
  obtain ⟨m0, r0, p0, f0⟩ := s_wrClear e S w b c [] [] (by omega) hk hw0.1 hw0.2
  by_cases c0 : st = 0
  · obtain ⟨m1, r1, p1, f1⟩ := hstar m0 f0 (by rw [if_pos c0]; exact p0)
    refine ⟨m1, ?_, p1, f1⟩
    simp (config := { maxSteps := 2000000 }) (disch := first | omega | (simp only [s1, w1, qb_in, qkW, qmW, qnW, true_and, and_true, or_self, true_or, or_true, and_self]; done) | (simp only [s1, w1, qb_in, qkW, qmW, qnW, true_and, and_true, or_self, true_or, or_true, and_self]; omega)) only [zD_19, b19_0, b19_5, b19_12, b19_26, b19_32, b19_35, b19_47, b19_54, b19_76, b19_86, b19_89, b19_96, b19_112, b19_121, qcall_l, qcall_r, qretn_l, qJ_s, qJ_n, qV0, qEx, ↓qif0, ↓zchk_pos, ↓reduceIte, qput, qWW, qmW, qkW, qnW, s1, w1, r0, fsw m0 (w5 f0), y2, if_pos c0]
    exact r1
  · obtain ⟨m2, r2, p2, f3⟩ := s_wrAppend e (qW S m0) w b c 0 0 40 [] [] (by omega) hk p0 (by decide)
    obtain ⟨m1, r1, p1, f1⟩ := hstar m2 (qfw_t f0 f3) (by rw [if_neg c0]; exact p2)
    refine ⟨m1, ?_, p1, f1⟩
    simp (config := { maxSteps := 2000000 }) (disch := first | omega | (simp only [s1, w1, qb_in, qkW, qmW, qnW, true_and, and_true, or_self, true_or, or_true, and_self]; done) | (simp only [s1, w1, qb_in, qkW, qmW, qnW, true_and, and_true, or_self, true_or, or_true, and_self]; omega)) only [zD_19, b19_0, b19_5, b19_12, b19_26, b19_32, b19_35, b19_47, b19_54, b19_76, b19_86, b19_89, b19_96, b19_112, b19_121, qcall_l, qcall_r, qretn_l, qJ_s, qJ_n, qV0, qEx, ↓qif0, ↓zchk_pos, ↓reduceIte, qput, qWW, qmW, qkW, qnW, s1, w1, r0, fsw m0 (w5 f0), y2, if_neg c0, r2]
    exact r1
