/-! The reference lays a book out. -/
/-- its rows hold a layout -/
def qZR (m : Int → Int → Int) (s : qZs) : Prop := m 37 53 = s.1 ∧ (∀ l c, 0 ≤ l → l < s.1 → 0 ≤ c → c < 40 → m 71 (40 * l + c) = s.2.2.2.1 l c) ∧ ∀ l, 0 ≤ l → l < s.1 → m 72 l = s.2.2.2.2 l
theorem qZR_e {m m' : Int → Int → Int} {s : qZs} (h : qZR m s) (h1 : m' 37 53 = m 37 53) (h2 : m' 71 = m 71) (h3 : m' 72 = m 72) : qZR m' s := by
  unfold qZR
  rw [h1, h2, h3]
  exact h
theorem qZR_a {m : Int → Int → Int} {s : qZs} (h : qZR m s) (k : Int) : qZR m (qZa s k) := h
theorem qZR_b {m m' : Int → Int → Int} {s : qZs} (h : qZR m s) (hn : 0 ≤ s.1) (h1 : m' 37 53 = s.1 + 1) (h2 : ∀ q, m' 71 q = if 40 * s.1 ≤ q ∧ q < 40 * s.1 + 40 then 0 else m 71 q) (h3 : ∀ l, m' 72 l = if l = s.1 then s.2.1 else m 72 l) : qZR m' (qZb s) := by
  obtain ⟨r1, r2, r3⟩ := h
  refine ⟨h1, fun l c l1 l2 c1 c2 => ?_, fun l l1 l2 => ?_⟩
  · have l2 : l < s.1 + 1 := l2
    rw [h2]
    show _ = if l = s.1 then 0 else s.2.2.2.1 l c
    by_cases c3 : l = s.1
    · rw [if_pos c3, if_pos (by omega)]
    · rw [if_neg c3, if_neg (by omega)]
      exact r2 l c l1 (by omega) c1 c2
  · have l2 : l < s.1 + 1 := l2
    rw [h3]
    show _ = if l = s.1 then s.2.1 else s.2.2.2.2 l
    by_cases c3 : l = s.1
    · rw [if_pos c3, if_pos c3]
    · rw [if_neg c3, if_neg c3]
      exact r3 l l1 (by omega)
theorem qZR_r {w : Int} {m m' : Int → Int → Int} {s : qZs} (h : qZR m s) (hn : 0 ≤ s.1) (h1 : m' 37 53 = s.1 + 1) (h2 : ∀ q, m' 71 q = if 40 * s.1 ≤ q ∧ q < 40 * s.1 + 40 then (if q - 40 * s.1 < w - 1 - qnu (s.2.1 + 1) then 36 else if q - 40 * s.1 < w then qnc (s.2.1 + 1) (q - 40 * s.1 - (w - 1 - qnu (s.2.1 + 1))) else 0) else m 71 q) (h3 : ∀ l, m' 72 l = if l = s.1 then s.2.1 + 1 else m 72 l) : qZR m' (qZr w s) := by
  obtain ⟨r1, r2, r3⟩ := h
  refine ⟨h1, fun l c l1 l2 c1 c2 => ?_, fun l l1 l2 => ?_⟩
  · have l2 : l < s.1 + 1 := l2
    rw [h2]
    show _ = if l = s.1 then qbar w (s.2.1 + 1) c else s.2.2.2.1 l c
    by_cases c3 : l = s.1
    · rw [if_pos c3, if_pos (by omega), show 40 * l + c - 40 * s.1 = c by omega]
      rfl
    · rw [if_neg c3, if_neg (by omega)]
      exact r2 l c l1 (by omega) c1 c2
  · have l2 : l < s.1 + 1 := l2
    rw [h3]
    show _ = if l = s.1 then s.2.1 + 1 else s.2.2.2.2 l
    by_cases c3 : l = s.1
    · rw [if_pos c3, if_pos c3]
    · rw [if_neg c3, if_neg c3]
      exact r3 l l1 (by omega)
theorem qZR_u {m m' : Int → Int → Int} {s : qZs} {K : List Int} (h : qZR m s) (hn : 0 < s.1) (hp : 0 ≤ s.2.2.1 ∧ s.2.2.1 + K.length ≤ 40) (h1 : m' 37 53 = m 37 53) (h2 : ∀ q, m' 71 q = if 40 * (s.1 - 1) + s.2.2.1 ≤ q ∧ q < 40 * (s.1 - 1) + s.2.2.1 + K.length then qnth K (q - (40 * (s.1 - 1) + s.2.2.1)) else m 71 q) (h3 : m' 72 = m 72) : qZR m' (qZu s K) := by
  obtain ⟨r1, r2, r3⟩ := h
  refine ⟨h1.trans r1, fun l c l1 l2 c1 c2 => ?_, fun l l1 l2 => by rw [h3]; exact r3 l l1 l2⟩
  have l2 : l < s.1 := l2
  rw [h2]
  show _ = if l = s.1 - 1 ∧ s.2.2.1 ≤ c ∧ c < s.2.2.1 + K.length then qnth K (c - s.2.2.1) else s.2.2.2.1 l c
  by_cases c3 : l = s.1 - 1 ∧ s.2.2.1 ≤ c ∧ c < s.2.2.1 + K.length
  · rw [if_pos c3, if_pos (by omega), show 40 * l + c - (40 * (s.1 - 1) + s.2.2.1) = c - s.2.2.1 by omega]
  · rw [if_neg c3, if_neg (by omega)]
    exact r2 l c l1 l2 c1 c2
/-- what the rows tell of a word -/
def qZi (m : Int → Int → Int) (j : Int) (s : qZs) (k L there U M : Int) : Prop := m 73 j = s.1 - 1 ∧ m 74 j = s.2.2.1 ∧ m 75 j = k ∧ m 76 j = L ∧ m 77 j = there ∧ m 78 j = U ∧ m 79 j = M ∧ m 80 j = s.2.1
theorem qZi_e {m m' : Int → Int → Int} {j : Int} {s : qZs} {k L there U M : Int} (h : qZi m j s k L there U M) (e : ∀ x, 73 ≤ x → x ≤ 80 → m' x j = m x j) : qZi m' j s k L there U M := by
  unfold qZi
  rw [e 73 (by decide) (by decide), e 74 (by decide) (by decide), e 75 (by decide) (by decide), e 76 (by decide) (by decide), e 77 (by decide) (by decide), e 78 (by decide) (by decide), e 79 (by decide) (by decide), e 80 (by decide) (by decide)]
  exact h
theorem r_laysStore (e : Nat) (S : zS) (m : Int → Int → Int) (b w t1 pr j pl th pa n sz U M : Int) (x5 x7 x11 : zV) (hK : qK S) (hP : qP m) (hj : 0 ≤ j ∧ j < 80) (h53 : m 37 53 = n) (hn : 1 ≤ n ∧ n ≤ 400) (h45 : m 37 45 = sz) (h42 : m 37 42 = U) (h43 : m 37 43 = M) (hM : 0 ≤ M ∧ M ≤ 1) :
    ∃ m', zF_265 e 245 [vr 37, vi b, vi w, vi t1, vi pr, x5, vi j, x7, vi pl, vi th, vi pa, x11] [] (qW S m) = zF_265 e 333 [vr 37, vi b, vi w, vi t1, vi pr, vu, vi j, vu, vi pl, vi th, vi pa, vu] [vi th, vi 0, vi pl, vr 37] (qW S m') ∧
      (m' 73 j = n - 1 ∧ m' 74 j = pl ∧ m' 75 j = pa ∧ m' 76 j = sz ∧ m' 77 j = th ∧ m' 78 j = U ∧ m' 79 j = M ∧ m' 80 j = pr) ∧ (∀ x i, i ≠ j → m' x i = m x i) ∧ ∀ x, x < 73 ∨ 80 < x → m' x = m x := by
  refine ⟨qu (qu (qu (qu (qu (qu (qu (qu m 73 j (n - 1)) 74 j pl) 75 j pa) 76 j sz) 77 j th) 78 j U) 79 j M) 80 j pr, ?_, ⟨?_, ?_, ?_, ?_, ?_, ?_, ?_, ?_⟩, fun x i hi => ?_, fun x hx => ?_⟩
  · have p55 := P_37_55 hP
    have p56 := P_37_56 hP
    have p57 := P_37_57 hP
    have p58 := P_37_58 hP
    have p59 := P_37_59 hP
    have p60 := P_37_60 hP
    have p61 := P_37_61 hP
    have p62 := P_37_62 hP
    have z1 : z32 (n - 1) = n - 1 := q32 (by omega)
    obtain ⟨M1, e1⟩ : ∃ M1, qu m 73 j (n - 1) = M1 := ⟨_, rfl⟩
    have f1 : M1 37 = m 37 := by rw [← e1, qu_o _ _ _ _ _ (by decide)]
    obtain ⟨M2, e2⟩ : ∃ M2, qu M1 74 j pl = M2 := ⟨_, rfl⟩
    have f2 : M2 37 = m 37 := by rw [← e2, qu_o _ _ _ _ _ (by decide), f1]
    obtain ⟨M3, e3⟩ : ∃ M3, qu M2 75 j pa = M3 := ⟨_, rfl⟩
    have f3 : M3 37 = m 37 := by rw [← e3, qu_o _ _ _ _ _ (by decide), f2]
    obtain ⟨M4, e4⟩ : ∃ M4, qu M3 76 j sz = M4 := ⟨_, rfl⟩
    have f4 : M4 37 = m 37 := by rw [← e4, qu_o _ _ _ _ _ (by decide), f3]
    obtain ⟨M5, e5⟩ : ∃ M5, qu M4 77 j th = M5 := ⟨_, rfl⟩
    have f5 : M5 37 = m 37 := by rw [← e5, qu_o _ _ _ _ _ (by decide), f4]
    obtain ⟨M6, e6⟩ : ∃ M6, qu M5 78 j U = M6 := ⟨_, rfl⟩
    have f6 : M6 37 = m 37 := by rw [← e6, qu_o _ _ _ _ _ (by decide), f5]
    obtain ⟨M7, e7⟩ : ∃ M7, qu M6 79 j M = M7 := ⟨_, rfl⟩
    have f7 : M7 37 = m 37 := by rw [← e7, qu_o _ _ _ _ _ (by decide), f6]
    rw [e1, e2, e3, e4, e5, e6, e7]
    rw [b265_245]
    simp (config := { maxSteps := 2000000 }) (disch := first | omega | (simp only [K_37 hK, K_73 hK, K_74 hK, K_75 hK, K_76 hK, K_77 hK, K_78 hK, K_79 hK, K_80 hK, p55, p56, p57, p58, p59, p60, p61, p62, f1, f2, f3, f4, f5, f6, f7, e1, e2, e3, e4, e5, e6, e7, qkW, qmW, true_and, and_true, or_self, true_or, or_true, and_self]; done) | (simp only [K_37 hK, K_73 hK, K_74 hK, K_75 hK, K_76 hK, K_77 hK, K_78 hK, K_79 hK, K_80 hK, p55, p56, p57, p58, p59, p60, p61, p62, f1, f2, f3, f4, f5, f6, f7, e1, e2, e3, e4, e5, e6, e7, qkW, qmW, true_and, and_true, or_self, true_or, or_true, and_self]; omega)) only [b265_262, b265_280, b265_297, b265_317, ↓zchk_pos, qput, qWW, qmW, qkW, K_37 hK, h53, h45, h42, h43, z1, p55, p56, p57, p58, p59, p60, p61, p62, f1, f2, f3, f4, f5, f6, f7, e1, e2, e3, e4, e5, e6, e7]
  · rw [qu_o _ _ _ _ _ (by decide), qu_o _ _ _ _ _ (by decide), qu_o _ _ _ _ _ (by decide), qu_o _ _ _ _ _ (by decide), qu_o _ _ _ _ _ (by decide), qu_o _ _ _ _ _ (by decide), qu_o _ _ _ _ _ (by decide), qu_s]
  · rw [qu_o _ _ _ _ _ (by decide), qu_o _ _ _ _ _ (by decide), qu_o _ _ _ _ _ (by decide), qu_o _ _ _ _ _ (by decide), qu_o _ _ _ _ _ (by decide), qu_o _ _ _ _ _ (by decide), qu_s]
  · rw [qu_o _ _ _ _ _ (by decide), qu_o _ _ _ _ _ (by decide), qu_o _ _ _ _ _ (by decide), qu_o _ _ _ _ _ (by decide), qu_o _ _ _ _ _ (by decide), qu_s]
  · rw [qu_o _ _ _ _ _ (by decide), qu_o _ _ _ _ _ (by decide), qu_o _ _ _ _ _ (by decide), qu_o _ _ _ _ _ (by decide), qu_s]
  · rw [qu_o _ _ _ _ _ (by decide), qu_o _ _ _ _ _ (by decide), qu_o _ _ _ _ _ (by decide), qu_s]
  · rw [qu_o _ _ _ _ _ (by decide), qu_o _ _ _ _ _ (by decide), qu_s]
  · rw [qu_o _ _ _ _ _ (by decide), qu_s]
  · rw [qu_s]
  · have ni : ∀ (q : Int → Int → Int) (a v : Int), qu q a j v x i = q x i := fun q a v => by
      by_cases c : x = a
      · rw [c, qu_i _ _ _ _ _ hi]
      · rw [qu_o _ _ _ _ _ c]
    rw [ni, ni, ni, ni, ni, ni, ni, ni]
  · rw [qu_o _ _ _ _ _ (by omega), qu_o _ _ _ _ _ (by omega), qu_o _ _ _ _ _ (by omega), qu_o _ _ _ _ _ (by omega), qu_o _ _ _ _ _ (by omega), qu_o _ _ _ _ _ (by omega), qu_o _ _ _ _ _ (by omega), qu_o _ _ _ _ _ (by omega)]
/-- a word is put, from where it begins -/
theorem r_laysTail (e : Nat) (S : zS) (m : Int → Int → Int) (b w t1 j pa th U M : Int) (s : qZs) (L : List Int) (x5 x7 x11 : zV) (he : 3 ≤ e) (hK : qK S) (hP : qP m) (hj : 0 ≤ j ∧ j < 80) (hs : qZR m s) (hn : 1 ≤ s.1 ∧ s.1 < 400) (hp : 0 ≤ s.2.2.1 ∧ s.2.2.1 + (if th < L.length then th + 1 else L.length) ≤ 40) (hth : 0 ≤ th ∧ th ≤ L.length) (hL : qKc m L) (hl : L.length ≤ 16) (h42 : m 37 42 = U) (h43 : m 37 43 = M) (hM : 0 ≤ M ∧ M ≤ 1) :
    ∃ m', zF_265 e 245 [vr 37, vi b, vi w, vi t1, vi s.2.1, x5, vi j, x7, vi s.2.2.1, vi th, vi pa, x11] [] (qW S m) = zF_265 e 67 [vr 37, vi b, vi w, vi t1, vi s.2.1, vi (qZ1 s L th).2.2.1, vi (j + 1), vu, vu, vu, vu, vu] [] (qW S m') ∧ qZR m' (qZ1 s L th) ∧ qZi m' j s pa L.length th U M ∧ (∀ x, 73 ≤ x → x ≤ 80 → ∀ i, i ≠ j → m' x i = m x i) ∧ qfr [71, 72, 73, 74, 75, 76, 77, 78, 79, 80] [53] m m' := by
  obtain ⟨l45, lA⟩ := hL
  obtain ⟨m1, r1, w1, w2, w3⟩ := r_laysStore e S m b w t1 s.2.1 j s.2.2.1 th pa s.1 L.length U M x5 x7 x11 hK hP hj hs.1 (by omega) l45 h42 h43 hM
  have f1 : qfr [71, 72, 73, 74, 75, 76, 77, 78, 79, 80] [53] m m1 := ⟨fun x x1 x2 => w3 x (by simp only [List.mem_cons, List.not_mem_nil, or_false] at x2; omega), fun i _ => by rw [w3 37 (by decide)]⟩
  have hP1 : qP m1 := qP_fr hP f1 (by decide)
  have hs1 : qZR m1 s := qZR_e hs (by rw [w3 37 (by decide)]) (w3 71 (by decide)) (w3 72 (by decide))
  have lA1 : qA m1 67 L := qA_o lA (w3 67 (by decide))
  have m45 : m1 37 45 = L.length := by rw [w3 37 (by decide), l45]
  obtain ⟨m2, r2, p1, p2⟩ := r_puts e (qW S m1) L s.2.2.1 0 th s.1 (by omega) hK hP1 hs1.1 (by omega) lA1 hl ⟨Int.le_refl _, hth.1, hth.2⟩ ⟨hp.1, by have h2 := hp.2; split at h2 <;> omega⟩
  have r2 : zD e 264 [vr 37, vi s.2.2.1, vi 0, vi th] (qW S m1) = some (.inl none, qW S m2) := r2
  have p1 : ∀ q, m2 71 q = if 40 * (s.1 - 1) + s.2.2.1 ≤ q ∧ q < 40 * (s.1 - 1) + s.2.2.1 + (th - 0) then qnth L (q - (40 * (s.1 - 1) + s.2.2.1) + 0) else m1 71 q := p1
  have p2 : ∀ x, x ≠ 71 → m2 x = m1 x := p2
  have f2 : qfr [71, 72, 73, 74, 75, 76, 77, 78, 79, 80] [53] m m2 := qfr_t' f1 (B := [71]) (K := []) ⟨fun x _ x2 => p2 x (by simpa using x2), fun i _ => by rw [p2 37 (by decide)]⟩ (by decide) (by decide)
  have hP2 : qP m2 := qP_fr hP f2 (by decide)
  have n45 : m2 37 45 = L.length := by rw [p2 37 (by decide), m45]
  have n53m : m2 37 53 = s.1 := by rw [p2 37 (by decide), hs1.1]
  have z1 : z32 (s.2.2.1 + th) = s.2.2.1 + th := q32 (by omega)
  have z2 : z32 (j + 1) = j + 1 := q32 (by omega)
  have wi : ∀ m', (∀ x, 73 ≤ x → m' x = m2 x) → qZi m' j s pa L.length th U M ∧ ∀ x, 73 ≤ x → x ≤ 80 → ∀ i, i ≠ j → m' x i = m x i := fun m' hm => by
    have hm1 : ∀ x, 73 ≤ x → m' x = m1 x := fun x hx => by rw [hm x hx, p2 x (by omega)]
    exact ⟨qZi_e w1 fun x x1 _ => by rw [hm1 x x1], fun x x1 _ i hi => by rw [hm1 x x1, w2 x i hi]⟩
  unfold qZ1
  by_cases c : th < L.length
  · rw [if_pos c] at hp ⊢
    have tl := qtk_l hth
    have dl := qdp_l hth
    -- the hyphen
    have p52 := P_37_52 hP2
    have z3 : z32 (s.1 - 1) = s.1 - 1 := q32 (by omega)
    have z4 : z32 (40 * (s.1 - 1)) = 40 * (s.1 - 1) := q32 (by omega)
    have z5 : z32 (40 * (s.1 - 1) + s.2.2.1) = 40 * (s.1 - 1) + s.2.2.1 := q32 (by omega)
    have z6 : z32 (40 * (s.1 - 1) + s.2.2.1 + th) = 40 * (s.1 - 1) + s.2.2.1 + th := q32 (by omega)
    obtain ⟨m3, hm3⟩ : ∃ m3, qu m2 71 (40 * (s.1 - 1) + s.2.2.1 + th) 36 = m3 := ⟨_, rfl⟩
    have g3 : ∀ x, x ≠ 71 → m3 x = m2 x := fun x hx => by rw [← hm3, qu_o _ _ _ _ _ hx]
    have hs3 : qZR m3 (qZu s (L.take th.toNat ++ [36])) := qZR_u hs1 (by omega) ⟨hp.1, by omega⟩ (by rw [g3 37 (by decide), p2 37 (by decide)]) (fun q => by
      rw [tl, ← hm3, qu_row]
      show (if q = 40 * (s.1 - 1) + s.2.2.1 + th then 36 else m2 71 q) = _
      rw [p1]
      by_cases d1 : q = 40 * (s.1 - 1) + s.2.2.1 + th
      · rw [if_pos d1, if_pos (by omega), qtk_n hth _ (by omega), if_pos (by omega)]
      · rw [if_neg d1]
        by_cases d2 : 40 * (s.1 - 1) + s.2.2.1 ≤ q ∧ q < 40 * (s.1 - 1) + s.2.2.1 + (th - 0)
        · rw [if_pos d2, if_pos (by omega), qtk_n hth _ (by omega), if_neg (by omega), Int.add_zero]
        · rw [if_neg d2, if_neg (by omega)]) (by rw [g3 72 (by decide), p2 72 (by decide)])
    have f3 : qfr [71, 72, 73, 74, 75, 76, 77, 78, 79, 80] [53] m m3 := qfr_t' f2 (B := [71]) (K := []) ⟨fun x _ x2 => g3 x (by simpa using x2), fun i _ => by rw [g3 37 (by decide)]⟩ (by decide) (by decide)
    have hP3 : qP m3 := qP_fr hP f3 (by decide)
    have n53 : m3 37 53 = s.1 := hs3.1
    -- another line
    obtain ⟨m4, r4, b1, b2, b3, b4, b5⟩ := r_beginsLine e (qW S m3) s.2.1 s.1 (by omega) hK hP3 n53 (by omega)
    have r4 : zD e 257 [vr 37, vi s.2.1] (qW S m3) = some (.inl none, qW S m4) := r4
    have hs4 : qZR m4 (qZb (qZu s (L.take th.toNat ++ [36]))) := qZR_b hs3 (by show 0 ≤ s.1; omega) b1 b3 b4
    have f4 : qfr [71, 72, 73, 74, 75, 76, 77, 78, 79, 80] [53] m m4 := qfr_t' f3 (B := [71, 72]) (K := [53]) ⟨fun x x1 x2 => b5 x x1 (by simp only [List.mem_cons, List.not_mem_nil, or_false] at x2; omega) (by simp only [List.mem_cons, List.not_mem_nil, or_false] at x2; omega), fun i hi => b2 i (by simpa using hi)⟩ (by decide) (by decide)
    have hP4 : qP m4 := qP_fr hP f4 (by decide)
    have lA4 : qA m4 67 L := qA_o lA (f4.1 67 (by decide) (by decide))
    have n45b : m4 37 45 = L.length := by rw [f4.2 45 (by decide), l45]
    have n45c : m3 37 45 = L.length := by rw [f3.2 45 (by decide), l45]
    obtain ⟨m5, r5, e1, e2⟩ := r_puts e (qW S m4) L 0 th L.length (s.1 + 1) (by omega) hK hP4 b1 (by omega) lA4 hl ⟨hth.1, hth.2, Int.le_refl _⟩ ⟨Int.le_refl _, by omega⟩
    have r5 : zD e 264 [vr 37, vi 0, vi th, vi (L.length : Nat)] (qW S m4) = some (.inl none, qW S m5) := r5
    have e1 : ∀ q, m5 71 q = if 40 * (s.1 + 1 - 1) + 0 ≤ q ∧ q < 40 * (s.1 + 1 - 1) + 0 + ((L.length : Int) - th) then qnth L (q - (40 * (s.1 + 1 - 1) + 0) + th) else m4 71 q := e1
    have e2 : ∀ x, x ≠ 71 → m5 x = m4 x := e2
    have n45d : m5 37 45 = L.length := by rw [e2 37 (by decide), n45b]
    have z7 : z32 ((L.length : Int) - th) = (L.length : Int) - th := q32 (by omega)
    obtain ⟨q1, q2⟩ := wi m5 fun x hx => by rw [e2 x (by omega), b5 x (by omega) (by omega) (by omega), qmW, g3 x (by omega)]
    refine ⟨m5, ?_, ?_, q1, q2, ?_⟩
    · rw [r1, b265_333]
      show _ = zF_265 e 67 [vr 37, vi b, vi w, vi t1, vi s.2.1, vi (0 + ((L.drop th.toNat).length : Int)), vi (j + 1), vu, vu, vu, vu, vu] [] (qW S m5)
      rw [dl, show 0 + ((L.length : Int) - th) = (L.length : Int) - th by omega]
      simp (config := { maxSteps := 2000000 }) (disch := first | omega | (simp only [K_37 hK, K_71 hK, p52, hm3, n45, n45b, n45c, n45d, n53m, z1, z3, z4, z5, z6, qkW, qmW, true_and, and_true, or_self, true_or, or_true, and_self]; done) | (simp only [K_37 hK, K_71 hK, p52, hm3, n45, n45b, n45c, n45d, n53m, z1, z3, z4, z5, z6, qkW, qmW, true_and, and_true, or_self, true_or, or_true, and_self]; omega)) only [b265_336, b265_352, b265_368, b265_380, b265_391, b265_400, qcall_l, qcall_r, qretn_l, qJ_s, qJ_n, qV0, qEx, ↓qif0, ↓zchk_pos, ↓reduceIte, qput, qWW, qmW, qkW, qnW, K_37 hK, r2, n45, n45b, n45c, n45d, n53m, p52, z1, z2, z3, z4, z5, z6, z7, hm3, r4, r5, if_pos c]
    · refine qZR_u hs4 (by show 0 < s.1 + 1; omega) ⟨Int.le_refl _, by show 0 + ((L.drop th.toNat).length : Int) ≤ 40; omega⟩ (by rw [e2 37 (by decide)]) (fun q => ?_) (e2 72 (by decide))
      show m5 71 q = if 40 * (s.1 + 1 - 1) + 0 ≤ q ∧ q < 40 * (s.1 + 1 - 1) + 0 + ((L.drop th.toNat).length : Int) then qnth (L.drop th.toNat) (q - (40 * (s.1 + 1 - 1) + 0)) else m4 71 q
      rw [e1, dl]
      by_cases d2 : 40 * (s.1 + 1 - 1) + 0 ≤ q ∧ q < 40 * (s.1 + 1 - 1) + 0 + ((L.length : Int) - th)
      · rw [if_pos d2, if_pos d2, qnth_drop _ _ _ (by omega), show ((th.toNat : Nat) : Int) + (q - (40 * (s.1 + 1 - 1) + 0)) = q - (40 * (s.1 + 1 - 1) + 0) + th by omega]
      · rw [if_neg d2, if_neg d2]
    · exact qfr_t' f4 (B := [71]) (K := []) ⟨fun x _ x2 => e2 x (by simpa using x2), fun i _ => by rw [e2 37 (by decide)]⟩ (by decide) (by decide)
  · rw [if_neg c] at hp ⊢
    have hth2 : th = L.length := by omega
    obtain ⟨q1, q2⟩ := wi m2 fun x hx => rfl
    refine ⟨m2, ?_, ?_, q1, q2, f2⟩
    · rw [r1, b265_333]
      show _ = zF_265 e 67 [vr 37, vi b, vi w, vi t1, vi s.2.1, vi (s.2.2.1 + (L.length : Int)), vi (j + 1), vu, vu, vu, vu, vu] [] (qW S m2)
      rw [← hth2]
      simp (config := { maxSteps := 2000000 }) (disch := first | omega | (simp only [K_37 hK, n45, qkW, qmW, true_and, and_true, or_self, true_or, or_true, and_self]; done) | (simp only [K_37 hK, n45, qkW, qmW, true_and, and_true, or_self, true_or, or_true, and_self]; omega)) only [b265_336, b265_400, qcall_l, qcall_r, qretn_l, qJ_s, qJ_n, qV0, qEx, ↓qif0, ↓zchk_pos, ↓reduceIte, qput, qWW, qmW, qkW, qnW, K_37 hK, r2, n45, z1, z2, if_neg c]
    · refine qZR_u hs1 (by omega) hp (by rw [p2 37 (by decide)]) (fun q => ?_) (p2 72 (by decide))
      rw [p1, hth2]
      by_cases d2 : 40 * (s.1 - 1) + s.2.2.1 ≤ q ∧ q < 40 * (s.1 - 1) + s.2.2.1 + (L.length : Int)
      · rw [if_pos (by omega), if_pos d2, Int.add_zero]
      · rw [if_neg (by omega), if_neg d2]
