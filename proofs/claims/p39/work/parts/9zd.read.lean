/-! The law reads the copies. -/
theorem hOk.d0 {n e y : Nat} {as : List zV} {o : zO} {V V1 : zS} {F F' : Int → zS → zR} (hV : qHC V) (s : hSk e y as o V V1) (d1 : hD V V1) (c1 : zc V1 = zc V ∧ zw V1 = zw V) (h : hOk n V1 F') (hF : ∀ a Z Z1, (zk Z a).1 = 32 → zDr e y (vr a :: as) Z = some (o, Z1) → F a Z = F' a Z1) : hOk n V F := by
  obtain ⟨V2, d, c, g⟩ := h
  refine ⟨V2, d1.tr d, ⟨by omega, by omega⟩, fun Z a b W hh => ?_⟩
  obtain ⟨Z1, r1, m1⟩ := s Z a b W hh (hh.ka hV)
  obtain ⟨Z2, r2, m2⟩ := g Z1 a b W m1.1
  exact ⟨Z2, by rw [hF a Z Z1 (by rw [hh.ka hV]) r1, r2], m1.tr m2⟩
theorem p_139 (e : Nat) (he : 20 ≤ e) {V : zS} (hV : qHC V) {k : Int} (c1 : 0 ≤ k ∧ k < zm V 37 65) : hS e 139 [vi k, vi 0] (.inl (some (vi (zm V 82 k)))) V V ∧ hS e 139 [vi k, vi 1] (.inl (some (vi (zm V 84 k)))) V V ∧ hS e 139 [vi k, vi 3] (.inl (some (vi (qhp (zm V) k 160)))) V V ∧ hS e 139 [vi k, vi 4] (.inl (some (vi (zm V 86 k)))) V V ∧ hS e 139 [vi k, vi 5] (.inl (some (vi (zm V 87 k)))) V V ∧ hS e 139 [vi k, vi 6] (.inl (some (vi (zm V 88 k)))) V V := by
  obtain ⟨f, rfl, hf⟩ := qd (show 15 + 1 ≤ e by omega)
  exact ⟨h_cls (as := [vi k, vi 0]) (by rfl) trivial (o := .inl (some (vi (zm V 82 k)))) trivial (c_139_0 f V k (by omega) hV c1), h_cls (as := [vi k, vi 1]) (by rfl) trivial (o := .inl (some (vi (zm V 84 k)))) trivial (c_139_1 f V k (by omega) hV c1), h_cls (as := [vi k, vi 3]) (by rfl) trivial (o := .inl (some (vi (qhp (zm V) k 160)))) trivial (c_139_3 f V k (by omega) hV c1), h_cls (as := [vi k, vi 4]) (by rfl) trivial (o := .inl (some (vi (zm V 86 k)))) trivial (c_139_4 f V k (by omega) hV c1), h_cls (as := [vi k, vi 5]) (by rfl) trivial (o := .inl (some (vi (zm V 87 k)))) trivial (c_139_5 f V k (by omega) hV c1), h_cls (as := [vi k, vi 6]) (by rfl) trivial (o := .inl (some (vi (zm V 88 k)))) trivial (c_139_6 f V k (by omega) hV c1)⟩
theorem qhp_P (m : Int → Int → Int) (k : Int) (P : Nat) (h : ∀ p : Int, (P : Int) ≤ p → p < 160 → m 85 (160 * k + p) = 0) : ∀ g : Nat, P + g ≤ 160 → qhp m k (P + g) = qhp m k P
  | 0, _ => rfl
  | g + 1, hg => by
    rw [← Nat.add_assoc, qhp, qhp_P m k P h g (by omega), if_pos (h ((P + g : Nat) : Int) (by omega) (by omega)), Int.add_zero]
theorem qhp_x {m m' : Int → Int → Int} (h : m' 85 = m 85) (k : Int) : ∀ n : Nat, qhp m' k n = qhp m k n
  | 0 => rfl
  | n + 1 => by rw [qhp, qhp, qhp_x h k n, h]
theorem hD_I {V V1 : zS} (d : hD V V1) (h : hI (zm V)) : hI (zm V1) :=
  hI_e (fun j _ => by rw [d.2.2.1 37 (Or.inl (Or.inr (Or.inr (by decide))))]) (fun z hz => d.2.2.1 z (Or.inl (Or.inr (Or.inr (by omega))))) h
theorem qst_n {S : zS} (hY : qYC S) : ∀ n : Nat, (n : Int) ≤ zm S 37 65 → (n : Int) ≤ qst_ (zm S) n := by
  intro n
  induction n with
  | zero => intro _; exact Int.le_refl _
  | succ n ih =>
    intro hn
    have i := ih (by omega)
    obtain ⟨b, x, y, w, t, P, ⟨a1, a2, -, -, -, a6⟩, ⟨b1, b2, b3, b4, b5, b6⟩, -⟩ := hY.2.1 n (by omega) (by omega)
    have hs : 1 ≤ qsh (zm S) (zm S 82 n) := by
      unfold qsh
      rw [a1, a2, a6]
      split <;> omega
    rw [qst_]
    omega
/-- one copy, its misread words counted -/
theorem r_mid (e : Nat) (he : 300 ≤ e) {V : zS} (hV : qHC V) (hi : hI (zm V)) {k M : Int} (c1 : 0 ≤ k ∧ k < zm V 37 65) (hM : M ≤ zm V 54 (zm V 82 k)) (hM0 : zm V 84 k = 0 → qhp (zm V) k 160 = 0 → M = 0) {n : Nat} (h : hOk n V (fun a Z => zF_353 (e + 1) 6 [vr a, vi 1, vi (k + 1), vi (k + 1), vu, vu] [] Z)) : hOk n V (fun a Z => zF_353 (e + 1) 39 [vr a, vu, vi k, vi k, vi (zm V 82 k), vu] [vi M] Z) := by
  obtain ⟨b, x, y, w, t, P, ⟨a1, a2, a3, a4, a5, a6⟩, ⟨b1, b2, b3, b4, b5, b6⟩, -, -, -, -, z85, -⟩ := hV.2.1.2.1 k c1.1 c1.2
  have n65 := hV.1.1.2.2.1.2.2.2.1.1.2
  have z := (hV.1.1.2.2.1.2.2.2.1.2.1 k c1.1 c1.2).2.2.2.2.2.2.2.2
  rw [a1] at hM ⊢
  obtain ⟨-, s1, s3, s4, s5, s6⟩ := p_139 (e + 1) (by omega) hV c1
  have t0 := p_134 (e + 1) (by omega) hV (b := b) (a := 0) ⟨b1, b2⟩ (by decide)
  have t1 := p_134 (e + 1) (by omega) hV (b := b) (a := 1) ⟨b1, b2⟩ (by decide)
  have e0 : bv (zm V) b 0 = zm V 54 b := rfl
  have e1 : bv (zm V) b 1 = P := by
    show zm V (zm V 8 b) (8 + 1) = P
    rw [a2]
    exact a6
  rw [e0] at t0
  rw [e1] at t1
  obtain ⟨H, hH⟩ : ∃ H, qhp (zm V) k 160 = H := ⟨_, rfl⟩
  have HP : H ≤ P := by
    have q := qhp_P (zm V) k P.toNat (fun p p0 p1 => z85 p (by omega) p1) (160 - P.toNat) (by omega)
    rw [show P.toNat + (160 - P.toNat) = 160 by omega, hH] at q
    have r := (qhp_r (zm V) k P.toNat).2
    omega
  have H0 : 0 ≤ H := by rw [← hH]; exact (qhp_r (zm V) k 160).1
  have g0 := hi.2.2 k c1.1 c1.2
  have sn := (hi.2.1 k c1.1 c1.2).2
  rw [hH] at s3 hM0
  have z1 : z32 (k + 1) = k + 1 := q32 (by omega)
  have h154 : hOk n V (fun a Z => zF_353 (e + 1) 148 [vr a, vu, vi (k + 1), vi k, vu, vu] [] Z) := h.eq fun a Z => by rw [b353_148, b353_153, b353_154, z1]
  have h135 : hOk n V (fun a Z => zF_353 (e + 1) 135 [vr a, vu, vi (k + 1), vi k, vu, vu] [vi (zm V 88 k)] Z) := by
    by_cases c : 0 < zm V 88 k
    · exact h154.eq fun a Z => by rw [b353_135, if_pos c]
    · have c86 : zm V 86 k = -1 := by
        by_cases q : zm V 86 k = -1
        · exact q
        · exact absurd (sn q) c
      have h138 : hOk n V (fun a Z => zF_353 (e + 1) 138 [vr a, vu, vi (k + 1), vi k, vu, vu] [] Z) := hOk.q hV s4 (hD.rf hV) ⟨rfl, rfl⟩ h154 fun a Z Z1 hk r => by rw [b353_138, zchk_pos hk, r, qcall_l, qJ_s, b353_144, if_pos c86]
      exact h138.eq fun a Z => by rw [b353_135, if_neg c]
  have h128 : hOk n V (fun a Z => zF_353 (e + 1) 128 [vr a, vu, vi (k + 1), vi k, vu, vu] [] Z) := hOk.q hV s6 (hD.rf hV) ⟨rfl, rfl⟩ h135 fun a Z Z1 hk r => by rw [b353_128, zchk_pos hk, r, qcall_l, qJ_s]
  have h118 : hOk n V (fun a Z => zF_353 (e + 1) 118 [vr a, vu, vi (k + 1), vi k, vi b, vu] [vi H] Z) := hOk.q hV t1 (hD.rf hV) ⟨rfl, rfl⟩ h128 fun a Z Z1 hk r => by rw [b353_118, zchk_pos hk, r, qcall_l, qJ_s, b353_125, if_neg (by omega)]
  have h112 : hOk n V (fun a Z => zF_353 (e + 1) 112 [vr a, vu, vi (k + 1), vi k, vi b, vu] [] Z) := hOk.q hV s3 (hD.rf hV) ⟨rfl, rfl⟩ h118 fun a Z Z1 hk r => by rw [b353_112, zchk_pos hk, r, qcall_l, qJ_s]
  have h79 : hOk n V (fun a Z => zF_353 (e + 1) 79 [vr a, vu, vi (k + 1), vi k, vi b, vu] [] Z) := by
    by_cases c : zm V 86 k = -1
    · have c2 : zm V 87 k = -1 := by omega
      have h94 : hOk n V (fun a Z => zF_353 (e + 1) 94 [vr a, vu, vi (k + 1), vi k, vi b, vu] [vi 1] Z) := hOk.q hV s5 (hD.rf hV) ⟨rfl, rfl⟩ h112 fun a Z Z1 hk r => by rw [b353_94, zchk_pos hk, r, qcall_l, qJ_s, b353_100, if_pos c2, b353_104, b353_109, if_pos rfl]
      exact hOk.q hV s4 (hD.rf hV) ⟨rfl, rfl⟩ h94 fun a Z Z1 hk r => by rw [b353_79, zchk_pos hk, r, qcall_l, qJ_s, b353_85, if_pos c, b353_89]
    · have c2 : ¬ zm V 87 k = -1 := by omega
      have h94 : hOk n V (fun a Z => zF_353 (e + 1) 94 [vr a, vu, vi (k + 1), vi k, vi b, vu] [vi 0] Z) := hOk.q hV s5 (hD.rf hV) ⟨rfl, rfl⟩ h112 fun a Z Z1 hk r => by rw [b353_94, zchk_pos hk, r, qcall_l, qJ_s, b353_100, if_neg c2, b353_108, b353_109, if_pos rfl]
      exact hOk.q hV s4 (hD.rf hV) ⟨rfl, rfl⟩ h94 fun a Z Z1 hk r => by rw [b353_79, zchk_pos hk, r, qcall_l, qJ_s, b353_85, if_neg c, b353_93]
  have h67 : hOk n V (fun a Z => zF_353 (e + 1) 67 [vr a, vu, vi (k + 1), vi k, vi b, vi M] [] Z) := hOk.q hV t0 (hD.rf hV) ⟨rfl, rfl⟩ h79 fun a Z Z1 hk r => by rw [b353_67, zchk_pos hk, r, qcall_l, qJ_s, b353_76, if_neg (by omega)]
  have h50 : hOk n V (fun a Z => zF_353 (e + 1) 50 [vr a, vu, vi (k + 1), vi k, vi b, vi M] [vi (zm V 84 k)] Z) := by
    by_cases c : 0 < zm V 84 k
    · exact h67.eq fun a Z => by rw [b353_50, if_pos c]
    · have h53 : hOk n V (fun a Z => zF_353 (e + 1) 53 [vr a, vu, vi (k + 1), vi k, vi b, vi M] [] Z) := hOk.q hV s3 (hD.rf hV) ⟨rfl, rfl⟩ h67 fun a Z Z1 hk r => by
        rw [b353_53, zchk_pos hk, r, qcall_l, qJ_s, b353_59]
        by_cases c2 : 0 < H
        · rw [if_pos c2]
        · rw [if_neg c2, b353_62, if_pos (hM0 (by omega) (by omega))]
      exact h53.eq fun a Z => by rw [b353_50, if_neg c]
  exact hOk.q hV s1 (hD.rf hV) ⟨rfl, rfl⟩ h50 fun a Z Z1 hk r => by rw [b353_39, zchk_pos hk, r, qcall_l, qJ_s, z1]
theorem r_loop (e : Nat) (he : 300 ≤ e) : ∀ (g : Nat) (k c : Int) (V W : zS), qHC V → hI (zm V) → (∃ Z a b, hH a b Z V W) → 0 ≤ k → k + g = 20 → (k < zm V 37 65 → c = k) → (zm V 37 65 ≤ k → c = zm V 37 65) → hOk g V (fun a Z => zF_353 (e + 1) 6 [vr a, vi 1, vi c, vi k, vu, vu] [] Z)
  | 0, k, c, V, W, hV, hi, hx, h0, hk, hc1, hc2 => by
    have n65 := hV.1.1.2.2.1.2.2.2.1.1.2
    have s := h_cls (V := V) (as := []) (d := e + 1) (y := 140) (by rfl) trivial (o := .inl (some (vi (zm V 37 73)))) trivial (by obtain ⟨f, rfl, hf⟩ := qd (show 15 ≤ e by omega); exact c_140 _ V (by omega) hV)
    have q := qst_n hV.2.1 (zm V 37 65).toNat (by omega)
    rw [← hV.2.1.2.2.1] at q
    have cc := hc2 (by omega)
    have h168 : hOk 0 V (fun a Z => zF_353 (e + 1) 168 [vr a, vu, vi c, vu, vu, vu] [vi (zm V 37 73)] Z) := hOk.fin hV fun a Z => by rw [b353_168, if_neg (by omega), b353_172, b353_177, zchk_pos (by decide)]
    exact hOk.q hV s (hD.rf hV) ⟨rfl, rfl⟩ h168 fun a Z Z1 hk r => by rw [b353_6, if_neg (by omega), b353_160, if_neg (by decide), b353_164, zchk_pos hk, r, qcall_l, qJ_s]
  | g + 1, k, c, V, W, hV, hi, hx, h0, hk, hc1, hc2 => by
    have n65 := hV.1.1.2.2.1.2.2.2.1.1.2
    have z1 : z32 (k + 1) = k + 1 := q32 (by omega)
    by_cases cN : k < zm V 37 65
    · have c1 : 0 ≤ k ∧ k < zm V 37 65 := ⟨h0, cN⟩
      obtain rfl := hc1 cN
      obtain ⟨b, x, y, w, t, P, q0⟩ := hV.2.1.2.1 c h0 cN
      obtain ⟨⟨a1, a2, a3, a4, a5, a6⟩, ⟨b1, b2, b3, b4, b5, b6⟩, -⟩ := id q0
      have hJ := (hV.1.1.2.2.2.2.1 b b1 b2).2.2.2.2.2.2.2.1.2
      obtain ⟨J, hJ⟩ : ∃ J : Nat, zm V 54 b = (J : Int) := ⟨(zm V 54 b).toNat, by omega⟩
      have n16 := hV.1.1.2.2.2.1.2
      obtain ⟨V1, s1, d1, z, u⟩ := hK1_q (v := qmis (qQj V c b x w t) J) hx hV (a_139 (e + 1) (by omega) c 2) (by
        obtain ⟨f, hf⟩ : ∃ f, e + 1 = f + 1 := ⟨e, rfl⟩
        rw [hf]
        obtain ⟨m, r, -⟩ := c_139_2 f V c (by omega) hV c1 q0 hJ
        exact ⟨m, r⟩)
      have er : ∀ x, 37 ≤ x → x ≤ 101 → zm V1 x = zm V x := fun x h1 h2 => d1.2.2.1 x (Or.inl (Or.inr (Or.inr ⟨h1, h2⟩)))
      have e37 := er 37 (by decide) (by decide)
      have mr := (qmis_r (qQj V c b x w t) J).2
      have s0 := (p_139 e (by omega) hV c1).1
      rw [a1] at s0
      have k6 := l_t6 e c 0 0 (Or.inl ⟨_, rfl⟩) s0
      have nx := r_loop e he g (c + 1) (c + 1) V1 W d1.1 (hD_I d1 hi) (s1.x hx) (by omega) (by omega) (fun _ => rfl) (fun q => by rw [e37] at q ⊢; omega)
      have md := r_mid e he d1.1 (hD_I d1 hi) (k := c) (M := qmis (qQj V c b x w t) J) (by rw [e37]; exact c1) (by rw [er 54 (by decide) (by decide), er 82 (by decide) (by decide), a1, hJ]; exact mr) (fun q1 q2 => by
        rw [er 84 (by decide) (by decide)] at q1
        rw [qhp_x (er 85 (by decide) (by decide))] at q2
        exact q_whole hV hi.1 q0 q1 q2 hJ) nx
      rw [er 82 (by decide) (by decide), a1] at md
      have h33 : hOk g V (fun a Z => zF_353 (e + 1) 33 [vr a, vi 1, vi c, vi c, vi b, vu] [] Z) := hOk.q hV s1 d1 ⟨z, u⟩ md fun a Z Z1 hk r => by rw [b353_33, zchk_pos hk, r, qcall_l, qJ_s]
      have zb : z32 b = b := q32 (by omega)
      have h6 : hOk g V (fun a Z => zF_353 (e + 1) 6 [vr a, vi 1, vi c, vi c, vu, vu] [] Z) := hOk.d0 hV k6 (hD.rf hV) ⟨rfl, rfl⟩ h33 fun a Z Z1 hk r => by
        rw [b353_6, if_pos (by omega), b353_12, if_neg (by decide), b353_16, r, qcall_l, qJ_s, b353_25, show res (.inl (some (vi b))) = b from rfl, zb, if_neg (by omega)]
      exact h6.up (Nat.le_succ _)
    · obtain ⟨q, r, -, hq⟩ := q_ofCopy_n e V k 0 (by omega) hV.1.1.1.1 hV.1.1.2.2.1.2.2.2.1.1 (fun q => cN q.2)
      have ax : aX (.inr q) := ⟨q, rfl, ps_D q hq⟩
      have s := h_cls (V := V) (as := [vi k, vi 0]) (by rfl) trivial (o := .inr q) trivial r
      have k6 := l_t6 e k 0 0 (Or.inr ax) s
      have nx := r_loop e he g (k + 1) c (zbump V) W (hD.b hV).1 hi (s.x hx) (by omega) (by omega) (fun q => absurd (show k < zm V 37 65 from by have q : k + 1 < zm V 37 65 := q; omega) cN) (fun _ => hc2 (by omega))
      rw [Nat.add_comm]
      exact hOk.d hV k6 (hD.b hV) ⟨Nat.le_refl _, Nat.le_refl _⟩ nx fun a Z Z1 hk r => by
        rw [b353_6, if_pos (by omega), b353_12, if_neg (by decide), b353_16, r, qcall_l, qJ_s, b353_25, aX_r ax, if_pos (by decide), b353_154, z1]
/-- the law finds all copies well read -/
theorem r_all (e : Nat) (he : 300 ≤ e) {V W : zS} (hV : qHC V) (hi : hI (zm V)) (hx : ∃ Z a b, hH a b Z V W) : hOk 20 V (fun a Z => zDr (e + 2) 353 [vr a] Z) := by
  have n65 := hV.1.1.2.2.1.2.2.2.1.1.2
  exact (r_loop e he 20 0 0 V W hV hi hx (Int.le_refl _) (by decide) (fun _ => rfl) (fun _ => by omega)).eq fun a Z => by rw [zDr_353, b353_0]
