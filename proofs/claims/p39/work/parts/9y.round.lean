/-! What is written of a word reads as that word. -/
def gC (c : Int) : Prop := 0 < c ∧ c ≠ 40 ∧ c ≠ 32 ∧ c ≠ 2 ∧ c ≠ 6 ∧ c ≠ 38 ∧ c ≠ 50
def gD (c : Int) : Prop := gC c ∧ c ≠ 48 ∧ c ≠ 60
theorem gD_l (l : Int) (h : 0 ≤ l ∧ l < 26) : gD (qlc l) := by
  have k : ∀ n : Nat, n < 26 → (0 < qlc (n : Int) ∧ qlc (n : Int) ≠ 40 ∧ qlc (n : Int) ≠ 32 ∧ qlc (n : Int) ≠ 2 ∧ qlc (n : Int) ≠ 6 ∧ qlc (n : Int) ≠ 38 ∧ qlc (n : Int) ≠ 50) ∧ qlc (n : Int) ≠ 48 ∧ qlc (n : Int) ≠ 60 := by decide +kernel
  have := k l.toNat (by omega)
  rw [show ((l.toNat : Nat) : Int) = l by omega] at this
  exact this
theorem gD_f {c : Int} (h : qfre c) : gD c := by
  obtain ⟨a, b, c1, c2⟩ := h
  have c1 : ¬ (c = 40 ∨ c = 32 ∨ c = 48 ∨ c = 60 ∨ c = 36) := c1
  have c2 : ¬ (c = 2 ∨ c = 6 ∨ c = 38 ∨ c = 50) := c2
  unfold gD gC
  omega
/-- cells of contractions -/
def hFk (T : Int → Int → Int) (N : Int) : Prop := ∀ k, 0 ≤ k → k < N → qfre (T 3 k) ∧ (T 4 k = 0 ∨ qfre (T 4 k))
theorem gD_ct {T : Int → Int → Int} {N : Int} (hT : qTok T N) (hF : hFk T N) (ws best : Int → Int) (n : Int) (hw : ∀ i, 0 ≤ i → i < n → 0 ≤ ws i ∧ ws i < 26) (hb : ∀ i, best i = -1 ∨ 0 ≤ best i ∧ best i < N) : ∀ (f : Nat) (at_ : Int), 0 ≤ at_ → ∀ x ∈ qct T ws best n f at_, gD x.1
  | 0, at_, _, x, hx => absurd hx List.not_mem_nil
  | f + 1, at_, h0, x, hx => by
    rw [qct] at hx
    by_cases c : n ≤ at_
    · rw [if_pos c] at hx
      exact absurd hx List.not_mem_nil
    · rw [if_neg c] at hx
      rcases List.mem_append.mp hx with q | q
      · unfold qsc at q
        by_cases b : best at_ = -1
        · rw [if_pos b] at q
          rw [List.mem_singleton.mp q]
          exact gD_l _ (hw at_ h0 (by omega))
        · rw [if_neg b] at q
          obtain ⟨b0, b1⟩ := (hb at_).resolve_left b
          obtain ⟨f3, f4⟩ := hF (best at_) b0 b1
          by_cases d : T 4 (best at_) = 0
          · rw [if_pos d] at q
            rw [List.mem_singleton.mp q]
            exact gD_f f3
          · rw [if_neg d] at q
            rcases List.mem_cons.mp q with q | q
            · rw [q]
              exact gD_f f3
            · rw [List.mem_singleton.mp q]
              exact gD_f (f4.resolve_left d)
      · refine gD_ct hT hF ws best n hw hb f _ ?_ x q
        unfold qnxt
        by_cases b : best at_ = -1
        · rw [if_pos b]
          omega
        · rw [if_neg b]
          obtain ⟨b0, b1⟩ := (hb at_).resolve_left b
          have := (hT (best at_) b0 b1).1
          omega
theorem lt_n (ws : Int → Int) : ∀ (n : Nat) (i : Int), 0 ≤ i → i < n → qnth ((qlt ws n).map Prod.fst) i = qlc (ws i)
  | 0, i, h0, h1 => by omega
  | n + 1, i, h0, h1 => by
    have e : (qlt ws (n + 1)).map Prod.fst = (qlt ws n).map Prod.fst ++ [qlc (ws n)] := by rw [qlt, List.map_append]; rfl
    have l : (((qlt ws n).map Prod.fst).length : Int) = n := by rw [List.length_map, qlt_l]
    rw [e]
    by_cases c : i < n
    · rw [qnth_l _ _ _ ⟨h0, by omega⟩]
      exact lt_n ws n i h0 c
    · rw [qnth_r _ _ _ (by omega), l, show i = (n : Int) by omega, Int.sub_self]
      rfl
theorem dt_n (ws : Int → Int) : ∀ (n : Nat) (i : Int), 0 ≤ i → i < n → qnth ((qdt ws n).map Prod.fst) i = qdc (ws i)
  | 0, i, h0, h1 => by omega
  | n + 1, i, h0, h1 => by
    have e : (qdt ws (n + 1)).map Prod.fst = (qdt ws n).map Prod.fst ++ [qdc (ws n)] := by rw [qdt, List.map_append]; rfl
    have l : (((qdt ws n).map Prod.fst).length : Int) = n := by rw [List.length_map, qdt_l]
    rw [e]
    by_cases c : i < n
    · rw [qnth_l _ _ _ ⟨h0, by omega⟩]
      exact dt_n ws n i h0 c
    · rw [qnth_r _ _ _ (by omega), l, show i = (n : Int) by omega, Int.sub_self]
      rfl
theorem mem_nth {L : List Int} {c : Int} (h : c ∈ L) : ∃ i : Nat, i < L.length ∧ qnth L (i : Int) = c := by
  obtain ⟨i, hi, e⟩ := List.getElem_of_mem h
  refine ⟨i, hi, ?_⟩
  unfold qnth
  rw [Int.toNat_natCast, List.getD_eq_getElem?_getD, List.getElem?_eq_getElem hi]
  exact e
/-- reading depends on the cells alone -/
theorem qCR_c {T : Int → Int → Int} {g all fr k : Int} {r r' : Int → Int} (h0 : 0 ≤ fr) (hr : ∀ i, 0 ≤ i → i < all → r i = r' i) (h : qCR T k g r all fr) : qCR T k g r' all fr := by
  obtain ⟨a1, a2, a3, a4, a5⟩ := h
  have q1 : 1 ≤ qcn (T 4 k) := by unfold qcn; split <;> omega
  refine ⟨a1, a2, (hr fr h0 (by omega)).symm.trans a3, fun h4 => ?_, a5⟩
  have q2 : qcn (T 4 k) = 2 := if_neg h4
  exact (hr (fr + 1) (by omega) (by omega)).symm.trans (a4 h4)
theorem qbr_c {T : Int → Int → Int} {N g all fr : Int} {r r' : Int → Int} (h0 : 0 ≤ fr) (hr : ∀ i, 0 ≤ i → i < all → r i = r' i) : qbr T N g r all fr = qbr T N g r' all fr := by
  have e : (fun k => qc (qCR T k g r all fr)) = fun k => qc (qCR T k g r' all fr) := funext fun k => by
    rw [show qCR T k g r all fr = qCR T k g r' all fr from propext ⟨qCR_c h0 hr, qCR_c h0 fun i a b => (hr i a b).symm⟩]
  unfold qbr
  rw [e]
theorem qrd_c {T : Int → Int → Int} {N g all : Int} {r r' : Int → Int} (hr : ∀ i, 0 ≤ i → i < all → r i = r' i) : ∀ (f : Nat) (at_ : Int) (acc : List Int), 0 ≤ at_ → qrd T r (qbr T N g r all) all f at_ acc = qrd T r' (qbr T N g r' all) all f at_ acc
  | 0, _, _, _ => rfl
  | f + 1, at_, acc, h0 => by
    have q1 : ∀ x : Int, 0 ≤ qcn x := fun x => by unfold qcn; split <;> omega
    rw [qrd, qrd]
    by_cases c : all ≤ at_
    · rw [if_pos c, if_pos c]
    · rw [if_neg c, if_neg c, ← qbr_c h0 hr, hr at_ h0 (by omega), qrd_c hr f (at_ + 1) _ (by omega), qrd_c hr f _ _ (by have := q1 (T 4 (qbr T N g r all at_)); omega)]
theorem qmc_k {mk : Int} (h : qmk mk) : qmkc (qmc mk) ∧ qmc mk ≠ 0 := by
  have h : mk = 44 ∨ mk = 46 ∨ mk = 59 ∨ mk = 63 := h
  rcases h with rfl | rfl | rfl | rfl <;> decide
/-- the signs ahead of a word -/
theorem rt_pre {st bg c0 : Int} {R : List Int} (hst : st = 0 ∨ st = 1) (hbg : 0 ≤ bg ∧ bg ≤ 2) (h40 : c0 ≠ 40) (h32 : c0 ≠ 32) : qys (qpre st bg ++ c0 :: R) = st ∧ qyg (qpre st bg ++ c0 :: R) = bg ∧ ((qpre st bg).length : Int) = st + bg := by
  have y : ∀ (L : List Int) (b : Int), b < (L.length : Int) → qnth L b = 32 → qyg1 L b = 1 := fun L b h1 h2 => if_pos ⟨h1, h2⟩
  have n : ∀ (L : List Int) (b : Int), qnth L b ≠ 32 → qyg1 L b = 0 := fun L b h => if_neg fun q => h q.2
  have g0 : ∀ (L : List Int), qyg1 L (qys L) = 0 → qyg L = 0 := fun L h => by unfold qyg; rw [h]; rfl
  have g1 : ∀ (L : List Int), qyg1 L (qys L) = 1 → qyg L = 1 + qyg1 L (qys L + 1) := fun L h => by unfold qyg; rw [h]; rfl
  have b3 : bg = 0 ∨ bg = 1 ∨ bg = 2 := by omega
  rcases hst with rfl | rfl
  · rcases b3 with rfl | rfl | rfl
    · have e : qpre 0 0 ++ c0 :: R = c0 :: R := rfl
      have s : qys (c0 :: R) = 0 := if_neg h40
      rw [e]
      exact ⟨s, g0 _ (by rw [s]; exact n _ _ h32), rfl⟩
    · have e : qpre 0 1 ++ c0 :: R = 32 :: c0 :: R := rfl
      have s : qys (32 :: c0 :: R) = 0 := rfl
      rw [e]
      refine ⟨s, ?_, rfl⟩
      rw [g1 _ (by rw [s]; exact y _ _ (by rw [List.length_cons]; omega) rfl), s, show (0 : Int) + 1 = 1 from rfl, n (32 :: c0 :: R) 1 h32]
      rfl
    · have e : qpre 0 2 ++ c0 :: R = 32 :: 32 :: c0 :: R := rfl
      have s : qys (32 :: 32 :: c0 :: R) = 0 := rfl
      rw [e]
      refine ⟨s, ?_, rfl⟩
      rw [g1 _ (by rw [s]; exact y _ _ (by rw [List.length_cons]; omega) rfl), s, y (32 :: 32 :: c0 :: R) (0 + 1) (by rw [List.length_cons, List.length_cons]; omega) rfl]
      rfl
  · rcases b3 with rfl | rfl | rfl
    · have e : qpre 1 0 ++ c0 :: R = 40 :: c0 :: R := rfl
      have s : qys (40 :: c0 :: R) = 1 := rfl
      rw [e]
      exact ⟨s, g0 _ (by rw [s]; exact n (40 :: c0 :: R) 1 h32), rfl⟩
    · have e : qpre 1 1 ++ c0 :: R = 40 :: 32 :: c0 :: R := rfl
      have s : qys (40 :: 32 :: c0 :: R) = 1 := rfl
      rw [e]
      refine ⟨s, ?_, rfl⟩
      rw [g1 _ (by rw [s]; exact y (40 :: 32 :: c0 :: R) 1 (by rw [List.length_cons, List.length_cons]; omega) rfl), s, show (1 : Int) + 1 = 2 from rfl, n (40 :: 32 :: c0 :: R) 2 h32]
      rfl
    · have e : qpre 1 2 ++ c0 :: R = 40 :: 32 :: 32 :: c0 :: R := rfl
      have s : qys (40 :: 32 :: 32 :: c0 :: R) = 1 := rfl
      rw [e]
      refine ⟨s, ?_, rfl⟩
      rw [g1 _ (by rw [s]; exact y (40 :: 32 :: 32 :: c0 :: R) 1 (by rw [List.length_cons, List.length_cons]; omega) rfl), s, y (40 :: 32 :: 32 :: c0 :: R) (1 + 1) (by rw [List.length_cons, List.length_cons, List.length_cons]; omega) rfl]
      rfl
/-- a word as it is written, cut up -/
theorem rt_cut {T : Int → Int → Int} {N g P dg st bg mk : Int} {W : List Int} (h0 : 0 ≤ N) (hT : qTok T N) (hF : hFk T N) (hW : qWk2 W dg st bg mk) : ∃ (S C K : List Int), qwL T N g W P dg st bg (qmc mk) = qpre st bg ++ (S ++ (C ++ K)) ∧ (∀ c ∈ C, gD c) ∧ 0 < C.length ∧ C.length ≤ 10 ∧ ((mk = 0 ∧ K = []) ∨ (qmk mk ∧ K = [qmc mk])) ∧
    ((dg = 1 ∧ S = [60] ∧ C.length = W.length ∧ ∀ i, 0 ≤ i → i < (W.length : Int) → qnth C i = qdc (qnth W i)) ∨ (dg = 0 ∧ S = [48] ∧ C.length = W.length ∧ ∀ i, 0 ≤ i → i < (W.length : Int) → qnth C i = qlc (qnth W i)) ∨
      (dg = 0 ∧ S = [] ∧ qrd T (qnth C) (qbr T N g (qnth C) C.length) C.length C.length 0 [] = some W)) := by
  obtain ⟨⟨w0, w10⟩, wst, wdg, wbg, wmk, wb2⟩ := hW
  obtain ⟨K, hK⟩ : ∃ K : List Int, (if qmc mk = 0 then [] else [qmc mk]) = K := ⟨_, rfl⟩
  have kk : (mk = 0 ∧ K = []) ∨ (qmk mk ∧ K = [qmc mk]) := by
    rcases wmk with rfl | q
    · exact Or.inl ⟨rfl, by rw [← hK]; rfl⟩
    · exact Or.inr ⟨q, by rw [← hK, if_neg (qmc_k q).2]⟩
  rcases wdg with ⟨rfl, wr⟩ | ⟨rfl, b0, w6, wr⟩
  · have wr' : ∀ i, 0 ≤ i → i < (W.length : Int) → 0 ≤ qnth W i ∧ qnth W i < 26 := wr
    by_cases m0 : qwM T N g W P 0 = 0
    · have hb : ∀ i, qbw T N g (qnth W) P W.length i = -1 ∨ 0 ≤ qbw T N g (qnth W) P W.length i ∧ qbw T N g (qnth W) P W.length i < N := fun i => by
        rcases qbw_s (T := T) (g := g) (ws := qnth W) (P := P) (n := W.length) (at_ := i) h0 with q | q
        · exact Or.inl q
        · exact Or.inr ⟨q.1, q.2.1⟩
      have cl := qct_n (T := T) (g := g) (P := P) (n := W.length) (ws := qnth W) h0 hT (by omega) W.length 0 (Int.le_refl _)
      have ok : qwOK T N g W P := by
        unfold qwM at m0
        rw [if_neg (by decide)] at m0
        unfold qc at m0
        by_cases q : qwOK T N g W P
        · exact q
        · rw [if_neg q] at m0
          omega
      refine ⟨[], (qC1 T N g W P).map Prod.fst, K, ?_, fun c hc => ?_, ?_, ?_, kk, Or.inr (Or.inr ⟨rfl, rfl, ?_⟩)⟩
      · unfold qwL qwS qwC
        rw [if_neg (by decide), if_pos m0, if_neg (by decide), if_pos m0, hK, List.append_nil, List.append_assoc]
        rfl
      · obtain ⟨x, hx, rfl⟩ := List.mem_map.mp hc
        exact gD_ct hT hF (qnth W) _ W.length wr' hb _ 0 (Int.le_refl _) x hx
      · rw [List.length_map]
        exact cl.2.1 (by omega) (by omega)
      · rw [List.length_map]
        have := cl.1
        rw [if_neg (by omega)] at this
        show (qct T (qnth W) (qbw T N g (qnth W) P W.length) W.length W.length 0).length ≤ 10
        omega
      · rw [List.length_map]
        exact ok
    · refine ⟨[48], (qlt (qnth W) W.length).map Prod.fst, K, ?_, fun c hc => ?_, by rw [List.length_map, qlt_l]; exact w0, by rw [List.length_map, qlt_l]; exact w10, kk, Or.inr (Or.inl ⟨rfl, rfl, by rw [List.length_map, qlt_l], fun i i0 i1 => lt_n _ _ i i0 i1⟩)⟩
      · unfold qwL qwS qwC
        rw [if_neg (by decide), if_neg m0, if_neg (by decide), if_neg m0, hK, List.append_assoc, List.append_assoc]
      · obtain ⟨i, i1, i2⟩ := mem_nth hc
        rw [List.length_map, qlt_l] at i1
        rw [← i2, lt_n _ _ i (Int.natCast_nonneg i) (by omega)]
        exact gD_l _ (wr' i (Int.natCast_nonneg i) (by omega))
  · refine ⟨[60], (qdt (qnth W) W.length).map Prod.fst, K, ?_, fun c hc => ?_, by rw [List.length_map, qdt_l]; exact w0, by rw [List.length_map, qdt_l]; exact w10, kk, Or.inl ⟨rfl, rfl, by rw [List.length_map, qdt_l], fun i i0 i1 => dt_n _ _ i i0 i1⟩⟩
    · unfold qwL qwS qwC
      rw [if_pos rfl, if_pos rfl, hK, List.append_assoc, List.append_assoc]
    · obtain ⟨i, i1, i2⟩ := mem_nth hc
      rw [List.length_map, qdt_l] at i1
      rw [← i2, dt_n _ _ i (Int.natCast_nonneg i) (by omega)]
      have r := wr i (Int.natCast_nonneg i) (by omega)
      unfold qdc
      by_cases z : qnth W (i : Int) = 0
      · rw [if_pos z]
        exact gD_l 9 (by decide)
      · rw [if_neg z]
        exact gD_l _ (by omega)
theorem q_rt {T : Int → Int → Int} {N g P dg st bg mk : Int} {W : List Int} (h0 : 0 ≤ N) (hT : qTok T N) (hF : hFk T N) (hW : qWk2 W dg st bg mk) : qyAs T N g (qwL T N g W P dg st bg (qmc mk)) W dg st bg mk ∧ (qwL T N g W P dg st bg (qmc mk)).length < 16 ∧ 0 < qnth (qwL T N g W P dg st bg (qmc mk)) 0 := by
  obtain ⟨S, C, K, eL, gc, c0, c10, kk, al⟩ := rt_cut (g := g) (P := P) h0 hT hF hW
  obtain ⟨⟨w0, w10⟩, wst, wdg, wbg, wmk, wb2⟩ := hW
  -- the body
  have sl : S.length ≤ 1 ∧ ∀ c ∈ S, c = 60 ∨ c = 48 := by
    rcases al with ⟨-, rfl, -⟩ | ⟨-, rfl, -⟩ | ⟨-, rfl, -⟩
    · exact ⟨Nat.le_refl _, fun c hc => Or.inl (List.mem_singleton.mp hc)⟩
    · exact ⟨Nat.le_refl _, fun c hc => Or.inr (List.mem_singleton.mp hc)⟩
    · exact ⟨Nat.zero_le _, fun c hc => absurd hc List.not_mem_nil⟩
  have gb : ∀ c ∈ S ++ C, gC c := fun c hc => by
    rcases List.mem_append.mp hc with q | q
    · unfold gC
      rcases sl.2 c q with rfl | rfl <;> omega
    · exact (gc c q).1
  obtain ⟨b, R, eB⟩ : ∃ b R, S ++ C = b :: R := by
    cases e : S ++ C with
    | nil =>
      have := congrArg List.length e
      rw [List.length_append] at this
      have z : ([] : List Int).length = 0 := rfl
      omega
    | cons b R => exact ⟨b, R, rfl⟩
  have gb0 := gb b (by rw [eB]; exact List.mem_cons_self)
  have eL2 : qwL T N g W P dg st bg (qmc mk) = qpre st bg ++ b :: (R ++ K) := by rw [eL, ← List.append_assoc S, eB]; rfl
  obtain ⟨p1, p2, p3⟩ := rt_pre (R := R ++ K) wst wbg gb0.2.1 gb0.2.2.1
  rw [← eL2] at p1 p2
  obtain ⟨L, hL⟩ : ∃ L, qwL T N g W P dg st bg (qmc mk) = L := ⟨_, rfl⟩
  rw [hL] at p1 p2 eL eL2 ⊢
  have kl : (K.length : Int) = if mk = 0 then 0 else 1 := by
    rcases kk with ⟨rfl, rfl⟩ | ⟨q, rfl⟩
    · rfl
    · rw [if_neg (fun z => (qmc_k q).2 (by rw [z]; rfl))]
      rfl
  have ll : (L.length : Int) = st + bg + ((S.length : Int) + C.length + K.length) := by
    rw [eL, List.length_append, List.length_append, List.length_append]
    omega
  have mk01 : (mk = 0 ∧ (K.length : Int) = 0) ∨ (qmk mk ∧ (K.length : Int) = 1) := by
    rcases kk with ⟨a, e⟩ | ⟨a, e⟩
    · exact Or.inl ⟨a, by rw [e]; rfl⟩
    · exact Or.inr ⟨a, by rw [e]; rfl⟩
  have yb : qyb L = st + bg := by unfold qyb; rw [p1, p2]
  have at_ : ∀ i, 0 ≤ i → i < (S.length : Int) + C.length → qnth L (st + bg + i) = qnth (S ++ C) i := fun i i0 i1 => by
    rw [eL, ← List.append_assoc S, qnth_r _ _ _ (by omega), qnth_l _ _ _ ⟨by omega, by rw [List.length_append]; omega⟩, p3]
    congr 1
    omega
  have in_ : ∀ i, 0 ≤ i → i < (S.length : Int) + C.length → gC (qnth L (st + bg + i)) := fun i i0 i1 => by
    rw [at_ i i0 i1]
    exact gb _ (qnth_m _ _ ⟨i0, by rw [List.length_append]; omega⟩)
  have tl : ∀ i, st + bg + ((S.length : Int) + C.length) ≤ i → qnth L i = qnth K (i - (st + bg + ((S.length : Int) + C.length))) := fun i hi => by
    rw [eL, ← List.append_assoc S, qnth_r _ _ _ (by omega), qnth_r _ _ _ (by rw [List.length_append]; omega), List.length_append, p3]
    congr 1
    omega
  -- the mark
  have ym : qym L = K.length ∧ (if qym L = 1 then qmo (qnth L (L.length - 1)) else 0) = mk := by
    rcases mk01 with ⟨m, k⟩ | ⟨m, k⟩
    · have last := in_ ((S.length : Int) + C.length - 1) (by omega) (by omega)
      rw [show st + bg + ((S.length : Int) + C.length - 1) = (L.length : Int) - 1 by omega] at last
      have e : qym L = 0 := if_neg fun q => by
        have q2 : qnth L (L.length - 1) = 2 ∨ qnth L (L.length - 1) = 6 ∨ qnth L (L.length - 1) = 38 ∨ qnth L (L.length - 1) = 50 := q.2
        unfold gC at last
        omega
      rw [e, k, if_neg (by decide), m]
      exact ⟨rfl, rfl⟩
    · have last : qnth L (L.length - 1) = qmc mk := by
        have eK : K = [qmc mk] := by
          rcases kk with ⟨a, e⟩ | ⟨-, e⟩
          · rw [e] at k
            exact absurd k (by decide)
          · exact e
        rw [tl _ (by omega), eK, show (L.length : Int) - 1 - (st + bg + ((S.length : Int) + C.length)) = 0 by omega]
        rfl
      have e : qym L = 1 := if_pos ⟨by rw [yb]; omega, by rw [last]; exact (qmc_k m).1⟩
      rw [e, k, if_pos rfl, last]
      exact ⟨rfl, (qmo_c (qmc_k m).1 (Or.inr m)).mpr rfl⟩
  have ye : qye L = st + bg + ((S.length : Int) + C.length) := by unfold qye; rw [ym.1]; omega
  have hd : qyhd L (qyb L) (qye L) = b := by
    unfold qyhd
    have a := at_ 0 (Int.le_refl _) (by omega)
    rw [Int.add_zero, eB] at a
    rw [yb, ye, if_pos (by omega), a]
    rfl
  refine ⟨⟨p1, ym.2, Or.inl p2, ?_⟩, ?_, ?_⟩
  · unfold qySo
    rw [hd, yb, ye]
    rcases al with ⟨rfl, rfl, e1, e2⟩ | ⟨rfl, rfl, e1, e2⟩ | ⟨rfl, rfl, e1⟩
    · obtain rfl : b = 60 := (List.cons.inj eB).1.symm
      rw [if_pos (Or.inl rfl)]
      have l1 : (([60] : List Int).length : Int) = 1 := rfl
      refine ⟨⟨fun _ => rfl, fun _ => rfl⟩, by omega, fun i i0 i1 => ?_⟩
      rw [show st + bg + 1 + i = st + bg + (1 + i) by omega, at_ (1 + i) (by omega) (by omega), qnth_r _ _ _ (by omega), show 1 + i - (([60] : List Int).length : Int) = i by omega, e2 i i0 i1]
      have r : 0 ≤ qnth W i ∧ qnth W i ≤ 9 := by
        rcases wdg with ⟨q, -⟩ | ⟨-, -, -, q⟩
        · exact absurd q (by decide)
        · exact q i i0 i1
      exact (qdo_c _ r).1
    · obtain rfl : b = 48 := (List.cons.inj eB).1.symm
      rw [if_pos (Or.inr rfl)]
      have l1 : (([48] : List Int).length : Int) = 1 := rfl
      refine ⟨⟨fun q => absurd q (by decide), fun q => absurd q (by decide)⟩, by omega, fun i i0 i1 => ?_⟩
      rw [show st + bg + 1 + i = st + bg + (1 + i) by omega, at_ (1 + i) (by omega) (by omega), qnth_r _ _ _ (by omega), show 1 + i - (([48] : List Int).length : Int) = i by omega, e2 i i0 i1]
      have r : 0 ≤ qnth W i ∧ qnth W i < 26 := by
        rcases wdg with ⟨-, q⟩ | ⟨q, -⟩
        · exact q i i0 i1
        · exact absurd q (by decide)
      exact qlo_lc _ r
    · have bc : gD b := gc b (by have : C = b :: R := eB; rw [this]; exact List.mem_cons_self)
      have nb : ¬ (b = 60 ∨ b = 48) := by
        have := bc.2
        omega
      have l0 : (([] : List Int).length : Int) = 0 := rfl
      rw [if_neg nb]
      refine ⟨by omega, rfl, ?_⟩
      rw [show st + bg + ((([] : List Int).length : Int) + C.length) - (st + bg) = (C.length : Int) by omega, Int.toNat_natCast, qrd_c (r' := qnth C) (fun i i0 i1 => at_ i i0 (by omega)) C.length 0 [] (Int.le_refl _)]
      exact e1
  · have : (S.length : Int) ≤ 1 := by omega
    rcases mk01 with ⟨-, k⟩ | ⟨-, k⟩ <;> omega
  · have fi : ∀ (Q : List Int) (v : Int), qnth (v :: Q) 0 = v := fun _ _ => rfl
    rw [eL2]
    unfold qpre
    rcases wst with rfl | rfl
    · have b3 : bg = 0 ∨ bg = 1 ∨ bg = 2 := by omega
      rcases b3 with rfl | rfl | rfl
      · show 0 < qnth (b :: (R ++ K)) 0
        rw [fi]
        exact gb0.1
      · show 0 < qnth (32 :: b :: (R ++ K)) 0
        rw [fi]
        decide
      · show 0 < qnth (32 :: 32 :: b :: (R ++ K)) 0
        rw [fi]
        decide
    · show 0 < qnth (40 :: (List.replicate bg.toNat 32 ++ b :: (R ++ K))) 0
      rw [fi]
      decide
