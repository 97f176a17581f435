/-! Words: what they give; the reference's whole layout. -/
theorem qsc_v {T : Int → Int → Int} {N : Int} (hT : qTok T N) (ws : Int → Int) (k at_ : Int) (hk : k = -1 ∨ 0 ≤ k ∧ k < N) : ∀ x ∈ qsc T ws k at_, 0 ≤ x.1 ∧ x.1 < 64 := by
  intro x hx
  unfold qsc at hx
  by_cases c : k = -1
  · rw [if_pos c] at hx
    rw [List.mem_singleton.mp hx]
    exact qlc_r _
  · rw [if_neg c] at hx
    obtain ⟨-, -, -, t3, t4, -⟩ := hT k (by omega) (by omega)
    by_cases c2 : T 4 k = 0
    · rw [if_pos c2] at hx
      rw [List.mem_singleton.mp hx]
      exact ⟨by show 0 ≤ T 3 k; omega, t3.2⟩
    · rw [if_neg c2] at hx
      rcases List.mem_cons.mp hx with q | q
      · rw [q]
        exact ⟨by show 0 ≤ T 3 k; omega, t3.2⟩
      · rw [List.mem_singleton.mp q]
        exact t4
theorem qct_v {T : Int → Int → Int} {N : Int} (hT : qTok T N) (ws best : Int → Int) (n : Int) (hb : ∀ i, best i = -1 ∨ 0 ≤ best i ∧ best i < N) : ∀ (f : Nat) (at_ : Int), ∀ x ∈ qct T ws best n f at_, 0 ≤ x.1 ∧ x.1 < 64 := by
  intro f
  induction f with
  | zero => intro at_ x hx; exact absurd hx (by simp [qct])
  | succ f ih =>
    intro at_ x hx
    rw [qct] at hx
    by_cases c : n ≤ at_
    · rw [if_pos c] at hx
      exact absurd hx (by simp)
    · rw [if_neg c] at hx
      rcases List.mem_append.mp hx with q | q
      · exact qsc_v hT ws _ _ (hb at_) x q
      · exact ih _ x q
theorem qlt_v (ws : Int → Int) : ∀ i : Nat, ∀ x ∈ qlt ws i, 0 ≤ x.1 ∧ x.1 < 64 := by
  intro i
  induction i with
  | zero => intro x hx; exact absurd hx (by simp [qlt])
  | succ i ih =>
    intro x hx
    rw [qlt] at hx
    rcases List.mem_append.mp hx with q | q
    · exact ih x q
    · rw [List.mem_singleton.mp q]
      exact qlc_r _
theorem qdt_v (ws : Int → Int) : ∀ i : Nat, ∀ x ∈ qdt ws i, 0 ≤ x.1 ∧ x.1 < 64 := by
  intro i
  induction i with
  | zero => intro x hx; exact absurd hx (by simp [qdt])
  | succ i ih =>
    intro x hx
    rw [qdt] at hx
    rcases List.mem_append.mp hx with q | q
    · exact ih x q
    · rw [List.mem_singleton.mp q]
      exact qlc_r _
theorem qwC_v {T : Int → Int → Int} {N g P dg : Int} {W : List Int} (hN : 0 ≤ N) (hT : qTok T N) : ∀ x ∈ qwC T N g W P dg, 0 ≤ x.1 ∧ x.1 < 64 := by
  unfold qwC
  split
  · exact qdt_v _ _
  · split
    · unfold qC1
      refine qct_v hT _ _ _ (fun i => ?_) _ _
      rcases qbw_s (T := T) (g := g) (ws := qnth W) (P := P) (n := W.length) (at_ := i) hN with q | q
      · exact Or.inl q
      · exact Or.inr ⟨q.1, q.2.1⟩
    · exact qlt_v _ _
theorem qwL_v {T : Int → Int → Int} {N g P dg st bg mk : Int} {W : List Int} (hN : 0 ≤ N) (hT : qTok T N) (hm : 0 ≤ mk ∧ mk < 64) : ∀ x ∈ qwL T N g W P dg st bg mk, 0 ≤ x ∧ x < 64 := by
  intro x hx
  unfold qwL at hx
  rcases List.mem_append.mp hx with q | q
  · rcases List.mem_append.mp q with q | q
    · unfold qwS qpre at q
      rcases List.mem_append.mp q with q | q
      · rcases List.mem_append.mp q with q | q
        · split at q
          · exact absurd q (by simp)
          · rw [List.mem_singleton.mp q]; decide
        · rw [(List.mem_replicate.mp q).2]; decide
      · split at q
        · rw [List.mem_singleton.mp q]; decide
        · split at q
          · exact absurd q (by simp)
          · rw [List.mem_singleton.mp q]; decide
    · obtain ⟨y, y1, y2⟩ := List.mem_map.mp q
      rw [← y2]
      exact qwC_v hN hT y y1
  · split at q
    · exact absurd q (by simp)
    · rw [List.mem_singleton.mp q]; exact hm
theorem qwL_c {T : Int → Int → Int} {N g P dg st bg mk : Int} {W : List Int} : ((qwS T N g W P dg st bg).length : Int) + (qwC T N g W P dg).length ≤ (qwL T N g W P dg st bg mk).length := by
  unfold qwL
  rw [List.length_append, List.length_append, List.length_map]
  omega
/-- a word of a book, in the reference's rows -/
def qWdo (m : Int → Int → Int) (b j : Int) (L E : List Int) (ah U M : Int) : Prop := ∃ (W : List Int) (dg st bg mk c N g : Int) (T : Int → Int → Int) (p : Nat), (qWr m (80 * b + j) W dg st bg mk ∧ qWk2 W dg st bg mk ∧ m 61 (80 * b + j) = ah) ∧ (m 49 b = c ∧ m 50 b = g ∧ qRc m c N T ∧ qTok T N) ∧ (qPw m W dg = (p : Int) ∧ (p = 0 ∨ qPk p W.length) ∧ (qpl (p : Int) W.length W.length).length ≤ 4) ∧ L = qwL T N g W p dg st bg (qmc mk) ∧ E = qwE T N g W p dg st bg ∧ U = qwU T N g W p dg ∧ M = qwM T N g W p dg ∧ (ah = 0 ∨ ah = 1 ∨ ah = 2)
theorem qwM_r {T : Int → Int → Int} {N g P dg : Int} {W : List Int} : 0 ≤ qwM T N g W P dg ∧ qwM T N g W P dg ≤ 1 := by
  unfold qwM qc
  split
  · decide
  · split <;> decide
theorem qpl_1 {p n : Nat} (hn : 0 < n) (hp : p = 0 ∨ qPk p n) : (qpl (p : Int) (n : Int) n).length = if p = 0 then 1 else qpc 24 p := by
  by_cases c : p = 0
  · rw [if_pos c, c]
    show (qpl 0 (n : Int) n).length = 1
    rw [qpl_z n hn]
    rfl
  · rw [if_neg c]
    exact (qpl_k (hp.resolve_left c)).1
theorem qWdo_o {m : Int → Int → Int} {b j : Int} {L E : List Int} {ah U M : Int} (h : qWdo m b j L E ah U M) : qWo L E ah := by
  obtain ⟨W, dg, st, bg, mk, c, N, g, T, p, ⟨-, w2, -⟩, ⟨-, -, rc, tk⟩, ⟨-, pk, l4⟩, rfl, rfl, -, -, oa⟩ := h
  obtain ⟨w1, -, -, w4, -, -⟩ := w2
  have hN := rc.2.2.1.1
  have ll := qwL_c (T := T) (N := N) (g := g) (P := p) (dg := dg) (st := st) (bg := bg) (mk := qmc mk) (W := W)
  have el : (qwE T N g W p dg st bg).length = (qpl (p : Int) W.length W.length).length := by unfold qwE; rw [List.length_map]
  have e1 := qpl_1 w1.1 pk
  refine ⟨qwL_l hN tk w1.2 w4.2, fun i i1 i2 => qwL_v hN tk (qmc_r mk) _ (qnth_m _ _ ⟨i1, i2⟩), ⟨?_, by rw [el]; exact l4⟩, fun i i1 i2 => ?_, oa⟩
  · rw [el, e1]
    split
    · exact Nat.le_refl 1
    · next c => exact qpc_p (pk.resolve_left c)
  · rw [el] at i2
    unfold qwE
    rw [qnth_map _ _ _ ⟨i1, i2⟩]
    have := qcc_r (qwC T N g W p dg) (qnth (qpl (p : Int) W.length W.length) i)
    omega
theorem qZ0_1 {w t : Int} {s : qZs} {L E : List Int} {ah : Int} (c1 : ah = 1) : qZ0 w t s L E ah = (qZa (qZb s) 2, (E.length : Int)) := by unfold qZ0; rw [if_pos c1]
theorem qZ0_2 {w t : Int} {s : qZs} {L E : List Int} {ah : Int} (c1 : ¬ ah = 1) (c2 : ah = 2) : qZ0 w t s L E ah = (qZb (qZr w (if s.1 % (t - 1) = t - 2 then qZb s else s)), (E.length : Int)) := by unfold qZ0; rw [if_neg c1, if_pos c2]
theorem qZ0_3 {w t : Int} {s : qZs} {L E : List Int} {ah : Int} (c1 : ¬ ah = 1) (c2 : ¬ ah = 2) (c3 : s.2.2.1 + 1 + L.length ≤ w) : qZ0 w t s L E ah = (qZa s (s.2.2.1 + 1), (E.length : Int)) := by unfold qZ0; rw [if_neg c1, if_neg c2, if_pos c3]
theorem qZ0_4 {w t : Int} {s : qZs} {L E : List Int} {ah : Int} (c1 : ¬ ah = 1) (c2 : ¬ ah = 2) (c3 : ¬ s.2.2.1 + 1 + L.length ≤ w) (c4 : qpm E (w - (s.2.2.1 + 1)) (E.length - 1) = 0) : qZ0 w t s L E ah = (qZb s, (E.length : Int)) := by unfold qZ0; rw [if_neg c1, if_neg c2, if_neg c3, if_pos c4]
theorem qZ0_5 {w t : Int} {s : qZs} {L E : List Int} {ah : Int} (c1 : ¬ ah = 1) (c2 : ¬ ah = 2) (c3 : ¬ s.2.2.1 + 1 + L.length ≤ w) (c4 : ¬ qpm E (w - (s.2.2.1 + 1)) (E.length - 1) = 0) : qZ0 w t s L E ah = (qZa s (s.2.2.1 + 1), qpm E (w - (s.2.2.1 + 1)) (E.length - 1)) := by unfold qZ0; rw [if_neg c1, if_neg c2, if_neg c3, if_neg c4]
theorem r_laysPlace (e : Nat) (S : zS) (m : Int → Int → Int) (b w t j sg u ah A B : Int) (p n : Nat) (C : List (Int × Int)) (s : qZs) (L E : List Int) (x5 x10 x11 : zV) (he : 6 ≤ e) (hK : qK S) (hP : qP m) (hs : qZR m s) (hk : qZk w s A B) (hA : A ≤ 300) (hB : B ≤ 200) (hw : 18 ≤ w ∧ w ≤ 40) (ht : 3 ≤ t ∧ t ≤ 25)
    (h38 : m 37 38 = (p : Int)) (h46 : m 37 46 = sg) (hsg : 0 ≤ sg ∧ sg ≤ 100) (hF : qFd m C u) (hC : C.length ≤ 16) (hp : p = 0 ∨ qPk p n) (hE : E = (qpl (p : Int) (n : Int) n).map fun x => sg + qcc C x) (he0 : p = 0 → E.length = 1) (h45 : m 37 45 = L.length) (ho : qWo L E ah) :
    ∃ m2, zF_265 e 129 [vr 37, vi b, vi w, vi (t - 1), vi s.2.1, x5, vi j, vi ah, vi (s.2.2.1 + 1), vi (L.length : Nat), x10, x11] [vi (E.length : Nat)] (qW S m) = zF_265 e 245 [vr 37, vi b, vi w, vi (t - 1), vi (qZ0 w t s L E ah).1.2.1, vu, vi j, vu, vi (qZ0 w t s L E ah).1.2.2.1, vi (qlp L E (qZ0 w t s L E ah).2), vi (qZ0 w t s L E ah).2, vu] [] (qW S m2) ∧ qZR m2 (qZ0 w t s L E ah).1 ∧ qfr [71, 72] [53] m m2 := by
  obtain ⟨k1, k2, k3, -⟩ := hk
  obtain ⟨o1, -, o3, o4, o5⟩ := ho
  have la := qlp_a L E o3.1
  have n53 := hs.1
  by_cases c1 : ah = 1
  · rw [qZ0_1 c1]
    obtain ⟨m2, r2, b1, b2, b3, b4, b5⟩ := r_beginsLine e (qW S m) s.2.1 s.1 (by omega) hK hP n53 (by omega)
    have r2 : zD e 257 [vr 37, vi s.2.1] (qW S m) = some (.inl none, qW S m2) := r2
    refine ⟨m2, ?_, qZR_a (qZR_b hs k1.1 b1 b3 b4) 2, ⟨fun x x1 x2 => b5 x x1 (fun q => x2 (by rw [q]; decide)) (fun q => x2 (by rw [q]; decide)), fun i hi => b2 i (by simpa using hi)⟩⟩
    rw [b265_129]
    show _ = zF_265 e 245 [vr 37, vi b, vi w, vi (t - 1), vi s.2.1, vu, vi j, vu, vi 2, vi (qlp L E (E.length : Int)), vi (E.length : Int), vu] [] (qW S m2)
    rw [la]
    simp (config := { maxSteps := 2000000 }) (disch := first | omega | (simp only [K_37 hK, qkW, qmW, true_and, and_true, or_self, true_or, or_true, and_self]; done)) only [b265_137, b265_143, qcall_l, qcall_r, qretn_l, qJ_s, qJ_n, qV0, qEx, ↓qif0, ↓zchk_pos, ↓reduceIte, qput, qWW, qmW, qkW, qnW, K_37 hK, if_pos c1, r2]
  by_cases c2 : ah = 2
  · rw [qZ0_2 c1 c2]
    have tm : Int.tmod s.1 (t - 1) = s.1 % (t - 1) := Int.tmod_eq_emod_of_nonneg k1.1
    have z1 : z32 (t - 1 - 1) = t - 2 := by rw [q32 (by omega)]; omega
    have z2 : z32 (s.2.1 + 1) = s.2.1 + 1 := q32 (by omega)
    -- behind the empty line
    have fin : ∀ (m1 : Int → Int → Int) (s1 : qZs), qZR m1 s1 → 0 ≤ s1.1 ∧ s1.1 < 390 → s1.2.1 = s.2.1 → qfr [71, 72] [53] m m1 → ∃ m2, zF_265 e 173 [vr 37, vi b, vi w, vi (t - 1), vi s.2.1, vu, vi j, vu, vu, vi (L.length : Nat), vi (E.length : Nat), vu] [] (qW S m1) = zF_265 e 245 [vr 37, vi b, vi w, vi (t - 1), vi (s.2.1 + 1), vu, vi j, vu, vi 0, vi (L.length : Nat), vi (E.length : Nat), vu] [] (qW S m2) ∧ qZR m2 (qZb (qZr w s1)) ∧ qfr [71, 72] [53] m m2 := by
      intro m1 s1 hs1 hn1 hp1 f1
      have hP1 : qP m1 := qP_fr hP f1 (by decide)
      obtain ⟨m2, r2, b1, b2, b3, b4, b5⟩ := r_barLine e (qW S m1) w (s.2.1 + 1) s1.1 (by omega) hK hP1 hs1.1 (by omega) hw (by omega)
      have r2 : zD e 260 [vr 37, vi w, vi (s.2.1 + 1)] (qW S m1) = some (.inl none, qW S m2) := r2
      have f2 : qfr [71, 72] [53] m m2 := qfr_t' f1 (B := [71, 72]) (K := [53]) ⟨fun x x1 x2 => b5 x x1 (fun q => x2 (by rw [q]; decide)) (fun q => x2 (by rw [q]; decide)), fun i hi => b2 i (by simpa using hi)⟩ (by decide) (by decide)
      have hP2 : qP m2 := qP_fr hP f2 (by decide)
      have hs2 : qZR m2 (qZr w s1) := qZR_r hs1 hn1.1 b1 (fun q => by rw [hp1]; exact b3 q) (fun l => by rw [hp1]; exact b4 l)
      obtain ⟨m3, r3, d1, d2, d3, d4, d5⟩ := r_beginsLine e (qW S m2) (s.2.1 + 1) (s1.1 + 1) (by omega) hK hP2 b1 (by omega)
      have r3 : zD e 257 [vr 37, vi (s.2.1 + 1)] (qW S m2) = some (.inl none, qW S m3) := r3
      refine ⟨m3, ?_, qZR_b hs2 (by show 0 ≤ s1.1 + 1; omega) d1 d3 (fun l => by
        show m3 72 l = if l = s1.1 + 1 then s1.2.1 + 1 else m2 72 l
        rw [hp1]
        exact d4 l), qfr_t' f2 (B := [71, 72]) (K := [53]) ⟨fun x x1 x2 => d5 x x1 (fun q => x2 (by rw [q]; decide)) (fun q => x2 (by rw [q]; decide)), fun i hi => d2 i (by simpa using hi)⟩ (by decide) (by decide)⟩
      rw [b265_173]
      simp (config := { maxSteps := 2000000 }) (disch := first | omega | (simp only [K_37 hK, qkW, qmW, true_and, and_true, or_self, true_or, or_true, and_self]; done)) only [b265_183, b265_189, qcall_l, qcall_r, qretn_l, qJ_s, qJ_n, qV0, qEx, ↓qif0, ↓zchk_pos, ↓reduceIte, qput, qWW, qmW, qkW, qnW, K_37 hK, z2, r2, r3]
    by_cases c3 : s.1 % (t - 1) = t - 2
    · rw [if_pos c3]
      obtain ⟨m1, r1, b1, b2, b3, b4, b5⟩ := r_beginsLine e (qW S m) s.2.1 s.1 (by omega) hK hP n53 (by omega)
      have r1 : zD e 257 [vr 37, vi s.2.1] (qW S m) = some (.inl none, qW S m1) := r1
      obtain ⟨m2, r2, q2, f2⟩ := fin m1 (qZb s) (qZR_b hs k1.1 b1 b3 b4) ⟨by show 0 ≤ s.1 + 1; omega, by show s.1 + 1 < 390; omega⟩ rfl ⟨fun x x1 x2 => b5 x x1 (fun q => x2 (by rw [q]; decide)) (fun q => x2 (by rw [q]; decide)), fun i hi => b2 i (by simpa using hi)⟩
      refine ⟨m2, ?_, q2, f2⟩
      rw [b265_129]
      show _ = zF_265 e 245 [vr 37, vi b, vi w, vi (t - 1), vi (s.2.1 + 1), vu, vi j, vu, vi 0, vi (qlp L E (E.length : Int)), vi (E.length : Int), vu] [] (qW S m2)
      rw [la, ← r2]
      simp (config := { maxSteps := 2000000 }) (disch := first | omega | (simp only [K_37 hK, qkW, qmW, true_and, and_true, or_self, true_or, or_true, and_self]; done)) only [b265_149, b265_155, b265_167, qcall_l, qcall_r, qretn_l, qJ_s, qJ_n, qV0, qEx, ↓qif0, ↓zchk_pos, ↓reduceIte, qput, qWW, qmW, qkW, qnW, K_37 hK, if_neg c1, if_pos c2, n53, tm, z1, if_pos c3, r1]
    · rw [if_neg c3]
      obtain ⟨m2, r2, q2, f2⟩ := fin m s hs ⟨k1.1, by omega⟩ rfl (qfr_r _ _ _)
      refine ⟨m2, ?_, q2, f2⟩
      rw [b265_129]
      show _ = zF_265 e 245 [vr 37, vi b, vi w, vi (t - 1), vi (s.2.1 + 1), vu, vi j, vu, vi 0, vi (qlp L E (E.length : Int)), vi (E.length : Int), vu] [] (qW S m2)
      rw [la, ← r2]
      simp (config := { maxSteps := 2000000 }) (disch := first | omega | (simp only [K_37 hK, qkW, qmW, true_and, and_true, or_self, true_or, or_true, and_self]; done)) only [b265_149, b265_155, qcall_l, qcall_r, qretn_l, qJ_s, qJ_n, qV0, qEx, ↓qif0, ↓zchk_pos, ↓reduceIte, qput, qWW, qmW, qkW, qnW, K_37 hK, if_neg c1, if_pos c2, n53, tm, z1, if_neg c3]
  have z3 : z32 (s.2.2.1 + 1 + (L.length : Int)) = s.2.2.1 + 1 + L.length := q32 (by omega)
  by_cases c3 : s.2.2.1 + 1 + L.length ≤ w
  · rw [qZ0_3 c1 c2 c3]
    refine ⟨m, ?_, qZR_a hs _, qfr_r _ _ _⟩
    rw [b265_129]
    show _ = zF_265 e 245 [vr 37, vi b, vi w, vi (t - 1), vi s.2.1, vu, vi j, vu, vi (s.2.2.1 + 1), vi (qlp L E (E.length : Int)), vi (E.length : Int), vu] [] (qW S m)
    rw [la]
    simp (config := { maxSteps := 2000000 }) (disch := first | omega | (simp only [K_37 hK, qkW, qmW, true_and, and_true, or_self, true_or, or_true, and_self]; done)) only [b265_149, b265_195, qcall_l, qcall_r, qretn_l, qJ_s, qJ_n, qV0, qEx, ↓qif0, ↓zchk_pos, ↓reduceIte, qput, qWW, qmW, qkW, qnW, K_37 hK, if_neg c1, if_neg c2, h45, z3, if_neg (show ¬ w < s.2.2.1 + 1 + (L.length : Int) by omega)]
  have z4 : z32 (w - (s.2.2.1 + 1)) = w - (s.2.2.1 + 1) := q32 (by omega)
  have pi := r_partsIn e (qW S m) p n (w - (s.2.2.1 + 1)) sg u C E (by omega) hK hP h38 h46 hsg hF hC hp hE he0
  by_cases c4 : qpm E (w - (s.2.2.1 + 1)) (E.length - 1) = 0
  · rw [qZ0_4 c1 c2 c3 c4]
    rw [c4] at pi
    obtain ⟨m2, r2, b1, b2, b3, b4, b5⟩ := r_beginsLine e (qW S m) s.2.1 s.1 (by omega) hK hP n53 (by omega)
    have r2 : zD e 257 [vr 37, vi s.2.1] (qW S m) = some (.inl none, qW S m2) := r2
    refine ⟨m2, ?_, qZR_b hs k1.1 b1 b3 b4, ⟨fun x x1 x2 => b5 x x1 (fun q => x2 (by rw [q]; decide)) (fun q => x2 (by rw [q]; decide)), fun i hi => b2 i (by simpa using hi)⟩⟩
    rw [b265_129]
    show _ = zF_265 e 245 [vr 37, vi b, vi w, vi (t - 1), vi s.2.1, vu, vi j, vu, vi 0, vi (qlp L E (E.length : Int)), vi (E.length : Int), vu] [] (qW S m2)
    rw [la]
    simp (config := { maxSteps := 2000000 }) (disch := first | omega | (simp only [K_37 hK, qkW, qmW, true_and, and_true, or_self, true_or, or_true, and_self]; done)) only [b265_149, b265_195, b265_206, b265_214, b265_221, b265_227, qcall_l, qcall_r, qretn_l, qJ_s, qJ_n, qV0, qEx, ↓qif0, ↓zchk_pos, ↓reduceIte, qput, qWW, qmW, qkW, qnW, K_37 hK, if_neg c1, if_neg c2, h45, z3, z4, if_pos (show w < s.2.2.1 + 1 + (L.length : Int) by omega), pi, r2]
  · rw [qZ0_5 c1 c2 c3 c4]
    have pr := qpm_r E (w - (s.2.2.1 + 1)) (E.length - 1)
    obtain ⟨k, hk⟩ : ∃ k, qpm E (w - (s.2.2.1 + 1)) (E.length - 1) = k := ⟨_, rfl⟩
    rw [hk] at pi pr c4 ⊢
    have p0 : p ≠ 0 := fun q => by have := he0 q; omega
    have hpk := hp.resolve_left p0
    have el : E.length = qpc 24 p := by rw [hE, List.length_map]; exact (qpl_k hpk).1
    have cp := r_cellsOfParts e (qW S m) p n k sg u C (by omega) hK hP h38 h46 hsg hF hC hpk (by omega)
    have le : sg + qcc C (qnth (qpl (p : Int) (n : Int) n) (k - 1)) = qlp L E k := by
      unfold qlp
      rw [if_neg (by omega), if_pos (by omega), hE, qnth_map _ _ _ (by rw [(qpl_k hpk).1]; omega)]
    rw [le] at cp
    refine ⟨m, ?_, qZR_a hs _, qfr_r _ _ _⟩
    rw [b265_129]
    show _ = zF_265 e 245 [vr 37, vi b, vi w, vi (t - 1), vi s.2.1, vu, vi j, vu, vi (s.2.2.1 + 1), vi (qlp L E k), vi k, vu] [] (qW S m)
    simp (config := { maxSteps := 2000000 }) (disch := first | omega | (simp only [K_37 hK, qkW, qmW, true_and, and_true, or_self, true_or, or_true, and_self]; done)) only [b265_149, b265_195, b265_206, b265_214, b265_233, b265_243, qcall_l, qcall_r, qretn_l, qJ_s, qJ_n, qV0, qEx, ↓qif0, ↓zchk_pos, ↓reduceIte, qput, qWW, qmW, qkW, qnW, K_37 hK, if_neg c1, if_neg c2, h45, z3, z4, if_pos (show w < s.2.2.1 + 1 + (L.length : Int) by omega), pi, if_neg c4, cp]
