/-! Words of a book in order; copies without a lack. -/
/-- tables that say the same of their contractions -/
def hTe (T T' : Int → Int → Int) (N : Int) : Prop := ∀ k, 0 ≤ k → k < N → T 0 k = T' 0 k ∧ T 1 k = T' 1 k ∧ T 2 k = T' 2 k ∧ T 3 k = T' 3 k ∧ T 4 k = T' 4 k ∧ ∀ j, 0 ≤ j → j < T 0 k → T (5 + j) k = T' (5 + j) k
theorem hTe_R {m : Int → Int → Int} {c N N' : Int} {T T' : Int → Int → Int} (h : qRc m c N T) (h' : qRc m c N' T') : N = N' ∧ hTe T T' N := by
  obtain ⟨-, n1, -, g⟩ := h
  obtain ⟨-, n2, -, g'⟩ := h'
  have e : N = N' := n1.symm.trans n2
  refine ⟨e, fun k k0 k1 => ?_⟩
  obtain ⟨a0, a1, a2, a3, a4, a5⟩ := g k k0 k1
  obtain ⟨b0, b1, b2, b3, b4, b5⟩ := g' k k0 (by omega)
  have e0 : T 0 k = T' 0 k := a0.symm.trans b0
  exact ⟨e0, a1.symm.trans b1, a2.symm.trans b2, a3.symm.trans b3, a4.symm.trans b4, fun j j0 j1 => by have := a5 j j0 j1; have := b5 j j0 (by omega); omega⟩
theorem qbs_c {cw cw' cnt cnt' : Int → Int} : ∀ (f : Nat) (k best most : Int), (∀ i, k ≤ i → i < k + f → cw i = cw' i ∧ cnt i = cnt' i) → qbs cw cnt f k best most = qbs cw' cnt' f k best most
  | 0, _, _, _, _ => rfl
  | f + 1, k, best, most, h => by
    obtain ⟨e1, e2⟩ := h k (Int.le_refl _) (by omega)
    rw [qbs, qbs, e1, e2, qbs_c f (k + 1) k (cnt' k) fun i a b => h i (by omega) (by omega), qbs_c f (k + 1) best most fun i a b => h i (by omega) (by omega)]
theorem qCR_t {T T' : Int → Int → Int} {N g all fr k : Int} {r : Int → Int} (h : hTe T T' N) (k0 : 0 ≤ k) (k1 : k < N) : qCR T k g r all fr = qCR T' k g r all fr := by
  obtain ⟨e0, e1, e2, e3, e4, -⟩ := h k k0 k1
  unfold qCR
  rw [e1, e2, e3, e4]
theorem qbr_t {T T' : Int → Int → Int} {N g all fr : Int} {r : Int → Int} (h0 : 0 ≤ N) (h : hTe T T' N) : qbr T N g r all fr = qbr T' N g r all fr := by
  unfold qbr
  refine qbs_c N.toNat 0 (-1) 0 fun i a b => ⟨?_, ?_⟩
  · show qc (qCR T i g r all fr) = qc (qCR T' i g r all fr)
    rw [qCR_t h a (by omega)]
  · show qcn (T 4 i) = qcn (T' 4 i)
    rw [(h i a (by omega)).2.2.2.2.1]
theorem qle_t {T T' : Int → Int → Int} {k : Int} : ∀ i : Nat, (∀ j, 0 ≤ j → j < (i : Int) → T (5 + j) k = T' (5 + j) k) → qle T k i = qle T' k i
  | 0, _ => rfl
  | i + 1, h => by rw [qle, qle, qle_t i fun j a b => h j a (by omega), h i (by omega) (by omega)]
theorem qrd_t {T T' : Int → Int → Int} {N g all : Int} {r : Int → Int} (h0 : 0 ≤ N) (hT : qTok T N) (h : hTe T T' N) : ∀ (f : Nat) (at_ : Int) (acc : List Int), qrd T r (qbr T N g r all) all f at_ acc = qrd T' r (qbr T' N g r all) all f at_ acc
  | 0, _, _ => rfl
  | f + 1, at_, acc => by
    rw [qrd, qrd, ← qbr_t h0 h]
    by_cases c : all ≤ at_
    · rw [if_pos c, if_pos c]
    · rw [if_neg c, if_neg c]
      by_cases b : qbr T N g r all at_ = -1
      · rw [if_pos b, if_pos b, qrd_t h0 hT h f]
      · rw [if_neg b, if_neg b]
        obtain ⟨k0, k1, -⟩ := (qbr_s (T := T) (g := g) (r := r) (all := all) (at_ := at_) h0).resolve_left b
        obtain ⟨e0, -, -, -, e4, e5⟩ := h _ k0 k1
        have t0 := (hT _ k0 k1).1
        have el : qlk T (qbr T N g r all at_) = qlk T' (qbr T N g r all at_) := by
          unfold qlk
          rw [← e0]
          exact qle_t _ fun j a b => e5 j a (by omega)
        rw [e4, el, qrd_t h0 hT h f]
theorem qyAs_t {T T' : Int → Int → Int} {N g : Int} {L W : List Int} {dg st bg mk : Int} (h0 : 0 ≤ N) (hT : qTok T N) (h : hTe T T' N) (q : qyAs T N g L W dg st bg mk) : qyAs T' N g L W dg st bg mk := by
  obtain ⟨a, b, c, d⟩ := q
  refine ⟨a, b, c, ?_⟩
  unfold qySo at d ⊢
  by_cases e : qyhd L (qyb L) (qye L) = 60 ∨ qyhd L (qyb L) (qye L) = 48
  · rw [if_pos e] at d ⊢
    exact d
  · rw [if_neg e] at d ⊢
    exact ⟨d.1, d.2.1, by rw [← qrd_t h0 hT h]; exact d.2.2⟩
/-- a word of a book -/
theorem wd_L {S : zS} {b j y : Int} {L E : List Int} {ah U M : Int} (hc : 0 ≤ zm S 49 b ∧ zm S 49 b < zm S 37 4) (hC : qRC S) (hi : hFr (zm S)) (h : qWw S b j y L E ah U M) : (0 < L.length ∧ L.length < 16 ∧ 0 < qnth L 0) ∧ zm S (y + 3) 1 = L.length ∧
    qyAs (qTm (zm S) (zm S 49 b)) (zm S 39 (zm S 49 b)) (zm S 50 b) L (qWc (zm S) (80 * b + j)) (zm S 56 (80 * b + j)) (zm S 55 (80 * b + j)) (zm S 57 (80 * b + j)) (zm S 60 (80 * b + j)) := by
  have l0 := qWw_0 h
  have wp := (qWw_b h).2
  obtain ⟨W, dg, st, bg, mk, c, N, g, T, p, ⟨⟨w1, w2, w3⟩, ⟨v1, v2, rc, tk⟩, -, hL, -⟩, -⟩ := h
  obtain ⟨x1, x2, x3, x4, x5⟩ := qWr_c w1
  have rc' := qRC_r hC hc.1 hc.2
  rw [v1] at rc' hc
  obtain ⟨eN, eT⟩ := hTe_R rc rc'
  have hF : hFk T N := fun k k0 k1 => by
    obtain ⟨-, -, -, e3, e4, -⟩ := eT k k0 k1
    rw [e3, e4]
    exact hi c k hc.1 hc.2 k0 (by rw [← eN]; exact k1)
  obtain ⟨r1, r2, r3⟩ := q_rt (g := g) (P := p) rc.2.2.1.1 tk hF w2
  rw [← hL] at r1 r2 r3
  refine ⟨⟨l0, r2, r3⟩, wp.2.2.1, ?_⟩
  rw [v1, v2, x1, x2, x3, x4, x5, ← eN]
  exact qyAs_t rc.2.2.1.1 tk eT r1
/-! Whole copies. -/
def qbv (v : Int) : Nat → Int
  | 0 => 0
  | j + 1 => qbv v j + if qbt v j = 1 then 2 ^ j else 0
theorem qbv_6 (v : Int) (h : 0 ≤ v ∧ v < 64) : qbv v 6 = v := by
  have k : ∀ n : Nat, n < 64 → qbv (n : Int) 6 = n := by decide +kernel
  have := k v.toNat (by omega)
  rw [show ((v.toNat : Nat) : Int) = v by omega] at this
  exact this
theorem fw_full {f r : Int → Int} {i n : Nat} (hi : i < n) (hr : ∀ q : Int, 0 ≤ q → q < 6 → qsb f q n ≤ r q) : ∀ j : Nat, j ≤ 6 → qfwx f r j i = qbv (f i) j
  | 0, _ => rfl
  | j + 1, hj => by
    rw [qfwx, qbv, fw_full hi hr j (by omega)]
    by_cases c : qbt (f i) j = 1
    · have := qsb_1 f j i n hi c
      have := hr j (by omega) (by omega)
      rw [if_pos ⟨c, by omega⟩, if_pos c]
    · rw [if_neg (fun q => c q.1), if_neg c]
theorem qhp_z {m : Int → Int → Int} {k : Int} : ∀ n : Nat, qhp m k n = 0 → ∀ p : Int, 0 ≤ p → p < n → m 85 (160 * k + p) = 0
  | 0, _, p, p0, p1 => by omega
  | n + 1, h, p, p0, p1 => by
    have r := (qhp_r m k n).1
    rw [qhp] at h
    by_cases c : m 85 (160 * k + n) = 0
    · by_cases e : p = n
      · rw [e]
        exact c
      · rw [if_pos c] at h
        exact qhp_z n (by omega) p p0 (by omega)
    · rw [if_neg c] at h
      omega
theorem qmis_0 {Q : Nat → Prop} : ∀ n : Nat, (∀ j, j < n → Q j) → qmis Q n = 0
  | 0, _ => rfl
  | n + 1, h => by
    have e : qc (Q n) = 1 := by
      unfold qc
      exact if_pos (h n (by omega))
    rw [qmis, qmis_0 n fun j hj => h j (by omega), e]
    rfl
theorem ix_lt {P t w p l c : Int} (hp : p < P) (hl : l < t) (h0 : 0 ≤ t) (hc : c < w) (hw : 0 ≤ w) : (p * t + l) * w + c < P * (t * w) := by
  have a := qixm h0 hp
  have b := qixm hw (show p * t + l < P * t by omega)
  rw [Int.mul_assoc] at b
  omega
theorem q_whole {S : zS} {k b x y w t P : Int} {J : Nat} (hH : qHC S) (hi : hFr (zm S)) (hq : qCq S k b x y w t P) (h84 : zm S 84 k = 0) (hh : qhp (zm S) k 160 = 0) (hJ : zm S 54 b = (J : Int)) : qmis (qQj S k b x w t) J = 0 := by
  obtain ⟨⟨⟨⟨hK, hP, hL, hn⟩, ⟨hT, hC, hR, hk⟩, hPo, hY⟩, hBB⟩, hYC, hFc⟩ := id hH
  obtain ⟨⟨a1, a2, a3, a4, a5, a6⟩, ⟨b1, b2, b3, b4, b5, b6⟩, -, -, -, -, -, -, e5⟩ := hq
  have bs := hY.2.1 b b1 b2
  obtain ⟨J', fL, fE, fA, fU, fM, P', l, w0, -⟩ := hBB b b1 b2
  have wr := bs.2.2.2.1
  have tr := bs.2.2.2.2.1
  rw [a2, a4, a5] at w0
  rw [a4] at wr
  rw [a5] at tr
  have eP : P' = P := by
    have := (qB0_P w0 wr.2.1 tr.2).2.1
    rw [a6] at this
    exact this.symm
  rw [eP] at w0
  have eJ : J' = J := by have := w0.1.1; omega
  rw [eJ] at w0
  have bd := w0.2.2.1.2.2
  refine qmis_0 J fun j hj => ?_
  obtain ⟨y', hy'⟩ : ∃ y', zm S (x + 1) j = y' := ⟨_, rfl⟩
  have ww := (w0.2.1 j hj).1
  rw [hy'] at ww
  obtain ⟨⟨l0, -⟩, l1, as⟩ := wd_L bs.2.1.2.2 hC hi ww
  obtain ⟨-, -, lies⟩ := q_wordIn w0 wr.2 tr.2 hj hy'
  have eL : qLj S k x w t y' = fL j := by
    unfold qLj
    rw [l1, Int.toNat_natCast]
    refine qnth_x (qgl_l _ _) fun i i0 i1 => ?_
    rw [qgl_l] at i1
    obtain ⟨⟨p0, p1⟩, ⟨q0, q1⟩, ⟨r0, r1⟩, v, -⟩ := lies i i0 i1
    rw [qgl_n _ _ i ⟨i0, i1⟩]
    unfold qFj qfv
    rw [qhp_z 160 hh _ p0 (by omega), if_pos rfl]
    have ix := ix_lt (P := P) p1 q1 (by omega) r1 (by omega)
    have ix0 : 0 ≤ (qtp1 (zm S) t y' i * t + qtp2 (zm S) t y' i) * w + qtp3 (zm S) y' i := by
      have m1 := Int.mul_nonneg p0 (show 0 ≤ t by omega)
      have m2 := Int.mul_nonneg (show 0 ≤ qtp1 (zm S) t y' i * t + qtp2 (zm S) t y' i by omega) (show 0 ≤ w by omega)
      omega
    rw [fw_full (n := (P * (t * w)).toNat) (by omega) (e5 h84) 6 (Nat.le_refl _), qbv_6 _ (bd.2 _), Int.toNat_of_nonneg ix0]
    exact v
  unfold qQj
  rw [hy', eL]
  exact as
/-! Where words stand. -/
theorem qZ0_p (w t : Int) (s : qZs) (L E : List Int) (ah : Int) : (qZ0 w t s L E ah).1.2.1 = s.2.1 ∨ (qZ0 w t s L E ah).1.2.1 = s.2.1 + 1 := by
  unfold qZ0
  by_cases a1 : ah = 1
  · rw [if_pos a1]
    exact Or.inl rfl
  · by_cases a2 : ah = 2
    · rw [if_neg a1, if_pos a2]
      refine Or.inr ?_
      show (qZr w (if s.1 % (t - 1) = t - 2 then qZb s else s)).2.1 = _
      by_cases c : s.1 % (t - 1) = t - 2
      · rw [if_pos c]; rfl
      · rw [if_neg c]; rfl
    · by_cases a3 : s.2.2.1 + 1 + L.length ≤ w
      · rw [if_neg a1, if_neg a2, if_pos a3]
        exact Or.inl rfl
      · by_cases a4 : qpm E (w - (s.2.2.1 + 1)) (E.length - 1) = 0
        · rw [if_neg a1, if_neg a2, if_neg a3, if_pos a4]
          exact Or.inl rfl
        · rw [if_neg a1, if_neg a2, if_neg a3, if_neg a4]
          exact Or.inl rfl
/-- a place of 3 or more is one behind the word ahead -/
theorem qZ0_33 (w t : Int) (s : qZs) (L E : List Int) (ah : Int) (h : 3 ≤ (qZ0 w t s L E ah).1.2.2.1) : (qZ0 w t s L E ah).1.1 = s.1 ∧ (qZ0 w t s L E ah).1.2.2.1 = s.2.2.1 + 1 ∧ (qZ0 w t s L E ah).1.2.2.2 = s.2.2.2 := by
  unfold qZ0 at h ⊢
  by_cases a1 : ah = 1
  · rw [if_pos a1] at h
    have h : (3 : Int) ≤ 2 := h
    omega
  · by_cases a2 : ah = 2
    · rw [if_neg a1, if_pos a2] at h
      have h : (3 : Int) ≤ 0 := h
      omega
    · by_cases a3 : s.2.2.1 + 1 + L.length ≤ w
      · rw [if_neg a1, if_neg a2, if_pos a3]
        exact ⟨rfl, rfl, rfl⟩
      · by_cases a4 : qpm E (w - (s.2.2.1 + 1)) (E.length - 1) = 0
        · rw [if_neg a1, if_neg a2, if_neg a3, if_pos a4] at h
          have h : (3 : Int) ≤ 0 := h
          omega
        · rw [if_neg a1, if_neg a2, if_neg a3, if_neg a4]
          exact ⟨rfl, rfl, rfl⟩
theorem qZ1_p (s : qZs) (L : List Int) (j : Int) : (qZ1 s L j).2.1 = s.2.1 := by
  unfold qZ1
  split <;> rfl
/-- what stands first, and what comes behind -/
theorem qZ1_h (s : qZs) (L : List Int) (j : Int) (hj : 0 ≤ j ∧ j ≤ L.length) (hl : 0 < L.length) (h0 : 0 < qnth L 0) :
    0 < (qZ1 s L j).2.2.2.1 (s.1 - 1) s.2.2.1 ∧ (s.1 - 1 < (qZ1 s L j).1 - 1 ∨ (s.1 - 1 = (qZ1 s L j).1 - 1 ∧ s.2.2.1 < (qZ1 s L j).2.2.1)) := by
  by_cases c : j = 0
  · unfold qZ1
    rw [if_pos (by omega), c]
    have e : (qZu (qZb (qZu s (L.take (0 : Int).toNat ++ [36]))) (L.drop (0 : Int).toNat)).2.2.2.1 (s.1 - 1) s.2.2.1 = if s.1 - 1 = s.1 + 1 - 1 ∧ 0 ≤ s.2.2.1 ∧ s.2.2.1 < 0 + ((L.drop (0 : Int).toNat).length : Int) then qnth (L.drop (0 : Int).toNat) (s.2.2.1 - 0) else if s.1 - 1 = s.1 then 0 else if s.1 - 1 = s.1 - 1 ∧ s.2.2.1 ≤ s.2.2.1 ∧ s.2.2.1 < s.2.2.1 + (([36] : List Int).length : Int) then qnth [36] (s.2.2.1 - s.2.2.1) else s.2.2.2.1 (s.1 - 1) s.2.2.1 := rfl
    rw [e, if_neg (by omega), if_neg (by omega), if_pos ⟨rfl, Int.le_refl _, by show s.2.2.1 < s.2.2.1 + 1; omega⟩, Int.sub_self]
    exact ⟨by decide, Or.inl (by show s.1 - 1 < s.1 + 1 - 1; omega)⟩
  · obtain ⟨l1, l2, -⟩ := qZ1_l s L j hj 0 ⟨Int.le_refl _, by omega⟩
    rw [if_pos (by omega), if_pos (by omega), Int.add_zero] at l1 l2
    exact ⟨by rw [l1]; exact h0, l2⟩
/-- .. lies behind it -/
theorem qZ1_n (s : qZs) (L : List Int) (j : Int) (hl : 0 < L.length) : s.1 < (qZ1 s L j).1 ∨ ((qZ1 s L j).1 = s.1 ∧ s.2.2.1 < (qZ1 s L j).2.2.1) := by
  unfold qZ1
  by_cases c : j < L.length
  · rw [if_pos c]
    exact Or.inl (by show s.1 < s.1 + 1; omega)
  · rw [if_neg c]
    exact Or.inr ⟨rfl, by show s.2.2.1 < s.2.2.1 + (L.length : Int); omega⟩
