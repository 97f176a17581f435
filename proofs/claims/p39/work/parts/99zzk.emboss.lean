/-! A copy is made: both answer alike. -/
/-- what lies as before, all else as behind -/
def qMix (M m : Int → Int → Int) : Int → Int → Int := fun z i => if ((64 ≤ z ∧ z ≤ 69) ∨ (71 ≤ z ∧ z ≤ 80) ∨ (z = 37 ∧ ((32 ≤ i ∧ i ≤ 34) ∨ (36 ≤ i ∧ i ≤ 38) ∨ i = 40 ∨ i = 42 ∨ i = 43 ∨ i = 45 ∨ i = 46 ∨ i = 50 ∨ i = 51 ∨ i = 53 ∨ i = 63))) ∨ (z = 37 ∧ i = 0) then M z i else m z i
theorem qMix_y {M m : Int → Int → Int} {z i : Int} (h : qfly z i ∨ (z = 37 ∧ i = 0)) : qMix M m z i = M z i := if_pos h
theorem qMix_n {M m : Int → Int → Int} {z i : Int} (h : ¬ (qfly z i ∨ (z = 37 ∧ i = 0))) : qMix M m z i = m z i := if_neg h
theorem qMix_f (M m : Int → Int → Int) : qF0 (qMix M m) m := fun z i hz => (qMix_n hz).symm
/-- a house whose part that lies was laid anew -/
theorem qHC_mix {T : zS} {M m : Int → Int → Int} (h : qHC (qW T (qMix M m))) (H : qHB1 (qW T m)) : qHC (qW T m) := by
  have F5 : qFzz (qW T (qMix M m)) m := qF0_z (S := qW T (qMix M m)) (qMix_f M m)
  exact qHC_z (S := qW T (qMix M m)) h F5 ⟨qH0_x (S := qW T (qMix M m)) h.1.1 F5.1, H.2⟩
theorem q_em_k {S T : zS} {n P : Int} (kT : ∀ z, zk T z = if z = (zn S : Int) + 2 then (4, P) else if z = (zn S : Int) + 1 then (3, n) else if z = zn S then (24, 0) else zk S z) (hn : (103 : Int) ≤ zn S) : ∀ z : Int, z < 103 → zk T z = zk S z := fun z hz => by
  rw [kT, if_neg (by omega), if_neg (by omega), if_neg (by omega)]
theorem q_em_7 {S : zS} (hH : qHC S) : 0 ≤ zm S 37 73 ∧ zm S 37 73 ≤ 100000 := by
  have n65 := hH.1.1.2.2.1.2.2.2.1.1.2
  rw [hH.2.1.2.2.1]
  have := qst_r hH.2.1 (zm S 37 65).toNat (by omega)
  omega
theorem q_em_w {S T : zS} {n : Nat} {P a b : Int} (wT : zw T = zw S + 9 + n + P.toNat) (n14 : n ≤ 14520) (hP : P ≤ 121) : ((zw T : Nat) : Int) ≤ zw S + 2000 + 15000 * ((a + (b + 1)) - (a + b)) := by
  omega
theorem q_em_0 {S : zS} {M : Int → Int → Int} {c x : Int} (hn : (103 : Int) ≤ zn S) (hc : 0 ≤ c ∧ c < 3) (x103 : 103 ≤ x) (xn : x + 2 < zn S) (MS : ∀ z : Int, z < zn S → z ≠ 102 → z ≠ 3 → z ≠ 13 → z ≠ 10 + c → z ≠ x → M z = zm S z) :
    (∀ z, 13 < z → z < 102 → M z = zm S z) ∧ M 8 = zm S 8 ∧ M 1 = zm S 1 ∧ M (x + 2) = zm S (x + 2) :=
  ⟨fun z z1 z2 => MS z (by omega) (by omega) (by omega) (by omega) (by omega) (by omega), MS 8 (by omega) (by decide) (by decide) (by decide) (by omega) (by omega), MS 1 (by omega) (by decide) (by decide) (by decide) (by omega) (by omega), MS (x + 2) (by omega) (by omega) (by omega) (by omega) (by omega) (by omega)⟩
theorem q_em_1 {S T : zS} {M : Int → Int → Int} {c x n P : Int} (hH : qHC S) (hc : 0 ≤ c ∧ c < 3) (kx : zk S x = (20, 0)) (x103 : 103 ≤ x) (nT : (zn T : Int) = zn S + 3) (kT : ∀ z, zk T z = if z = (zn S : Int) + 2 then (4, P) else if z = (zn S : Int) + 1 then (3, n) else if z = zn S then (24, 0) else zk S z) (MS : ∀ z : Int, z < zn S → z ≠ 102 → z ≠ 3 → z ≠ 13 → z ≠ 10 + c → z ≠ x → M z = zm S z) (M3 : ∀ j, j ≠ 9 → M 3 j = zm S 3 j) (Mx : ∀ j, j ≠ 13 → M x j = zm S x j) : qHB1 (qW T M) := by
  have hn1 := hH.1.1.1.2.2.2
  have nkx := qknn kx
  have kp : qKp S T := ⟨by omega, fun z hz => by rw [kT, if_neg (by omega), if_neg (by omega), if_neg (by omega)]⟩
  refine qHB1_m (S := S) (qHB1_0 hH.1) ⟨kp, fun z j hzn hz => ?_⟩
  clear kp kT
  unfold qEh at hz
  show M z j = zm S z j
  by_cases z1 : z = 3
  · subst z1
    exact M3 j (by omega)
  · by_cases z2 : z = x
    · subst z2
      exact Mx j (by omega)
    · rw [MS z hzn (by omega) z1 (by omega) (by omega) z2]
theorem q_em_2 {S T : zS} {M mF : Int → Int → Int} {k c b x w t P : Int} {n : Nat} {f cp : Int → Int} (hH : qHC S) (hk : zm S 37 65 = k) (hk20 : k < 20) (hb : 0 ≤ b ∧ b < zm S 37 16) (hx : zm S 8 b = x) (hc : 0 ≤ c ∧ c < 3) (hw : zm S 51 b = w) (ht : zm S 52 b = t) (hP : zm S x 9 = P) (h54 : 0 < zm S 54 b) (hn : P * (t * w) = (n : Int)) (hf : zm S (x + 2) = f) (hcp : ∀ q, 0 ≤ q → q < 6 → zm S 81 (6 * c + q) = cp q) (x103 : 103 ≤ x) (nT : (zn T : Int) = zn S + 3 ∧ zc T = zc S + 3 ∧ zw T = zw S + 9 + n + P.toNat) (kT : ∀ z, zk T z = if z = (zn S : Int) + 2 then (4, P) else if z = (zn S : Int) + 1 then (3, (n : Int)) else if z = zn S then (24, 0) else zk S z) (MS : ∀ z : Int, z < zn S → z ≠ 102 → z ≠ 3 → z ≠ 13 → z ≠ 10 + c → z ≠ x → M z = zm S z) (Ml : ∀ z, 13 < z → z < 102 → M z = zm S z) (M3 : ∀ j, j ≠ 9 → M 3 j = zm S 3 j) (M39 : M 3 9 = k + 1) (M13 : ∀ i, M 13 i = if i = k then (zn S : Int) else zm S 13 i) (M10 : ∀ q, 0 ≤ q → q < 6 → M (10 + c) q = cp q - qmn (cp q) (qsb f q n)) (Mx : ∀ j, j ≠ 13 → M x j = zm S x j) (Mx13 : M x 13 = zm S x 13 + 1) (MN : M (zn S) 0 = b ∧ M (zn S) 1 = x ∧ M (zn S) 2 = (zn S : Int) + 1 ∧ M (zn S) 3 = (zn S : Int) + 2 ∧ M (zn S) 4 = 0 ∧ M (zn S) 5 = qps (fun q => qgm f cp q n) 6 ∧ M (zn S) 6 = -1 ∧ M (zn S) 7 = -1 ∧ M (zn S) 8 = 0) (MF : ∀ i : Nat, i < n → M ((zn S : Int) + 1) i = qfwx f cp 6 i) (MH : ∀ j, M ((zn S : Int) + 2) j = 0) (shM : qsh M b = qsh (zm S) b) (HF : qHB1 (qW T mF)) (b1 : ∀ z i, ¬ (qfly z i ∨ (81 ≤ z ∧ z ≤ 84) ∨ z = 86 ∨ z = 87 ∨ (z = 37 ∧ (i = 0 ∨ i = 65 ∨ i = 73))) → mF z i = M z i) (f65 : mF 37 65 = k + 1) (f73 : mF 37 73 = M 37 73 + qsh M b) (f81 : ∀ q, 0 ≤ q → q < 6 → mF 81 (6 * c + q) = cp q - qmn (cp q) (qsb f q n)) (f81' : ∀ i, i < 6 * c ∨ 6 * c + 6 ≤ i → mF 81 i = M 81 i) (f82 : ∀ i, mF 82 i = if i = k then b else M 82 i) (f83 : ∀ q, 0 ≤ q → q < 6 → mF 83 (6 * k + q) = qmn (cp q) (qsb f q n)) (f83' : ∀ i, i < 6 * k → mF 83 i = M 83 i) (f84 : ∀ i, mF 84 i = if i = k then qps (fun q => qgm f cp q n) 6 else M 84 i) (f86 : ∀ i, mF 86 i = if i = k then -1 else M 86 i) (f87 : ∀ i, mF 87 i = if i = k then -1 else M 87 i) : qHC (qW T mF) := by
  have hn1 := hH.1.1.1.2.2.2
  -- all but what lies
  have mh : ∀ z i, ¬ qfly z i → ¬ (z = 37 ∧ i = 0) → qMix M mF z i = mF z i := fun z i h1 h2 => qMix_n fun q => q.elim h1 h2
  have mb : ∀ z i, ¬ ((81 ≤ z ∧ z ≤ 84) ∨ z = 86 ∨ z = 87 ∨ (z = 37 ∧ (i = 65 ∨ i = 73))) → qMix M mF z i = M z i := fun z i h1 => by
    by_cases c1 : qfly z i ∨ (z = 37 ∧ i = 0)
    · exact qMix_y c1
    · rw [qMix_n c1, b1 z i (by
        intro q
        rcases q with q | q | q | q | ⟨q, q2⟩
        · exact c1 (Or.inl q)
        · exact h1 (Or.inl q)
        · exact h1 (Or.inr (Or.inl q))
        · exact h1 (Or.inr (Or.inr (Or.inl q)))
        · rcases q2 with q2 | q2
          · exact c1 (Or.inr ⟨q, q2⟩)
          · exact h1 (Or.inr (Or.inr (Or.inr ⟨q, q2⟩))))]
  have mbr : ∀ z, ¬ ((81 ≤ z ∧ z ≤ 84) ∨ z = 86 ∨ z = 87 ∨ z = 37) → qMix M mF z = M z := fun z h1 => funext fun i => mb z i (by omega)
  have HM : qHC (qW T (qMix M mF)) := q_emboss_T (S2 := qW T (qMix M mF)) hH hk hk20 hb hx hc hw ht hP h54 hn hf hcp (by
    clear hn
    refine ⟨⟨nT.1, kT⟩, fun z z0 z1 z2 z3 z4 z5 z6 z7 z8 z9 => ?_, ⟨fun j hj => ?_, ?_⟩, fun i => ?_, ⟨fun j j1 j2 j3 => ?_, ?_, ?_⟩, fun q q1 q2 => ⟨?_, ?_⟩, fun i hi => ?_, fun i => ?_, ⟨fun q q1 q2 => ?_, fun i hi => ?_⟩, fun i => ?_, ⟨fun i => ?_, fun i => ?_⟩, ⟨fun j hj => ?_, ?_⟩, ?_, fun i hi => ?_, fun j => ?_⟩
    · show qMix M mF z = _
      rw [mbr z (by omega), MS z z0 z9 z1 z2 z4 z8]
    · show qMix M mF 3 j = _
      rw [mbr 3 (by decide), M3 j hj]
    · show qMix M mF 3 9 = _
      rw [mbr 3 (by decide), M39]
    · show qMix M mF 13 i = _
      rw [mbr 13 (by decide), M13]
    · show qMix M mF 37 j = _
      rw [mb 37 j (by omega), Ml 37 (by decide) (by decide)]
    · show qMix M mF 37 65 = _
      rw [mh 37 65 (by unfold qfly; omega) (by omega), f65]
    · show qMix M mF 37 73 = _
      rw [mh 37 73 (by unfold qfly; omega) (by omega), f73, Ml 37 (by decide) (by decide), shM]
    · show qMix M mF (10 + c) q = _
      rw [mbr (10 + c) (by omega), M10 q q1 q2]
    · show qMix M mF 81 _ = _
      rw [mh 81 _ (by unfold qfly; omega) (by omega), f81 q q1 q2]
    · show qMix M mF 81 _ = _
      rw [mh 81 _ (by unfold qfly; omega) (by omega), f81' i hi, Ml 81 (by decide) (by decide)]
    · show qMix M mF 82 _ = _
      rw [mh 82 _ (by unfold qfly; omega) (by omega), f82 i, Ml 82 (by decide) (by decide)]
    · show qMix M mF 83 _ = _
      rw [mh 83 _ (by unfold qfly; omega) (by omega), f83 q q1 q2]
    · show qMix M mF 83 _ = _
      rw [mh 83 _ (by unfold qfly; omega) (by omega), f83' i hi, Ml 83 (by decide) (by decide)]
    · show qMix M mF 84 _ = _
      rw [mh 84 _ (by unfold qfly; omega) (by omega), f84 i, Ml 84 (by decide) (by decide)]
    · show qMix M mF 86 _ = _
      rw [mh 86 _ (by unfold qfly; omega) (by omega), f86 i, Ml 86 (by decide) (by decide)]
    · show qMix M mF 87 _ = _
      rw [mh 87 _ (by unfold qfly; omega) (by omega), f87 i, Ml 87 (by decide) (by decide)]
    · show qMix M mF x j = _
      rw [mbr x (by omega), Mx j hj]
    · show qMix M mF x 13 = _
      rw [mbr x (by omega), Mx13]
    · show qMix M mF (zn S) 0 = _ ∧ qMix M mF (zn S) 1 = _ ∧ qMix M mF (zn S) 2 = _ ∧ qMix M mF (zn S) 3 = _ ∧ qMix M mF (zn S) 4 = _ ∧ qMix M mF (zn S) 5 = _ ∧ qMix M mF (zn S) 6 = _ ∧ qMix M mF (zn S) 7 = _ ∧ qMix M mF (zn S) 8 = _
      rw [mbr (zn S) (by omega)]
      exact MN
    · show qMix M mF ((zn S : Int) + 1) i = _
      rw [mbr _ (by omega), MF i hi]
    · show qMix M mF ((zn S : Int) + 2) j = _
      rw [mbr _ (by omega), MH j])
  exact qHC_mix HM HF
theorem q_emboss_y (e : Nat) (S : zS) (k c b x w t P : Int) (he : 13 ≤ e) (hH : qHC S) (hk : zm S 37 65 = k) (hk20 : k < 20) (hb : 0 ≤ b ∧ b < zm S 37 16) (hx : zm S 8 b = x) (hc : 0 ≤ c ∧ c < 3) (hw : zm S 51 b = w) (ht : zm S 52 b = t) (hP : zm S x 9 = P) (h54 : 0 < zm S 54 b) :
    qUn vi qid (qGo S) S (zD (e + 1) 137 [vr 3, vi c, vi b] S) (zD (e + 1) 276 [vr 37, vi c, vi b]) qpsE := by
  obtain ⟨⟨⟨⟨hK, hPp, hL, hn1⟩, -, ⟨p1, p2, p3, p4, p5, p6⟩, hY⟩, hBB⟩, hYC, hFc⟩ := id hH
  have k0 : 0 ≤ k := by rw [← hk]; exact p4.1.2.1
  have he12 : 12 ≤ e := by omega
  obtain ⟨⟨kx, kx1, kx2, x103, xn⟩, -, -, ⟨x3, wr⟩, ⟨x4, tr⟩, ⟨-, h53⟩, -, -, x8, -⟩ := hY.2.1 b hb.1 hb.2
  rw [hx] at kx kx1 kx2 x103 xn x3 x4 x8
  rw [hw] at x3 wr kx2
  rw [ht] at x4 tr kx2
  have Pr : 0 ≤ P ∧ P ≤ qmp t ∧ P ≤ 121 := by
    obtain ⟨J, fL, fE, fA, fU, fM, P', ll, w0, -⟩ := hBB b hb.1 hb.2
    obtain ⟨Pr, x9, -⟩ := qB0_P w0 (by rw [hw]; exact wr.1) (by rw [ht]; exact tr)
    rw [hx, hP] at x9
    rw [ht] at Pr
    rw [x9]
    exact Pr
  have cc := (s_countCl 1 S x w t P (by omega) kx kx2 x3 x4 x8 hP wr tr ⟨Pr.1, Pr.2.1⟩).2
  obtain ⟨n, hn⟩ : ∃ n : Nat, P * (t * w) = (n : Int) := ⟨(P * (t * w)).toNat, by omega⟩
  obtain ⟨f, hf⟩ : ∃ f, zm S (x + 2) = f := ⟨_, rfl⟩
  obtain ⟨cp, hcp⟩ : ∃ cp : Int → Int, (fun q => zm S 81 (6 * c + q)) = cp := ⟨_, rfl⟩
  have hcp : ∀ q, 0 ≤ q → q < 6 → zm S 81 (6 * c + q) = cp q := fun q _ _ => by rw [← hcp]
  have cpr : ∀ q, 0 ≤ q → q < 6 → 0 ≤ cp q ∧ cp q ≤ 100000 := fun q q1 q2 => by rw [← hcp q q1 q2]; exact (p1 c q hc.1 hc.2 q1 q2).2
  obtain ⟨T, C, rC, ⟨nT, zT, wT⟩, kT, Co, ⟨C3, C39⟩, C13, C10, ⟨Cx, Cx13⟩, CN, CF, CH, -, -, n14⟩ := s_emboss e S k c b x w t P n f cp (by omega) hH hk hk20 hb hx hc hw ht hP h54 hn hf hcp
  have xn2 : x + 2 < zn S := by omega
  have C1 : C 1 = zm S 1 := Co 1 (by omega) (by decide) (by decide) (by omega) (by omega)
  have kT' := q_em_k kT hn1
  clear cc
  refine Or.inl ⟨k, qW T C, rC, ⟨by show C 1 = _; exact C1, fun z hz => by rw [qkW]; exact kT' z hz⟩, ?_⟩
  obtain ⟨M, hM⟩ : ∃ M, qu C 102 0 (qid k) = M := ⟨_, rfl⟩
  have hq1 : qo (qW T C) (qid k) = qW T M := by rw [← hM]; rfl
  have Mo : ∀ z, z ≠ 102 → M z = C z := fun z hz => by rw [← hM, qu_o _ _ _ _ _ hz]
  have MS : ∀ z : Int, z < zn S → z ≠ 102 → z ≠ 3 → z ≠ 13 → z ≠ 10 + c → z ≠ x → M z = zm S z := fun z h0 h1 h2 h3 h4 h5 => by rw [Mo z h1, Co z h0 h2 h3 h4 h5]
  have M3 : ∀ j, j ≠ 9 → M 3 j = zm S 3 j := fun j hj => by rw [Mo 3 (by decide), C3 j hj]
  have x102 : x ≠ 102 := by omega
  have Mx : ∀ j, j ≠ 13 → M x j = zm S x j := fun j hj => by rw [Mo x x102, Cx j hj]
  have H1 : qHB1 (qW T M) := q_em_1 hH hc kx x103 nT kT MS M3 Mx
  obtain ⟨Ml, M8, M1, Mx2⟩ := q_em_0 hn1 hc x103 xn2 MS
  have M37 : M 37 = zm S 37 := Ml 37 (by decide) (by decide)
  have l73 : 0 ≤ zm S 37 73 ∧ zm S 37 73 ≤ 100000 := q_em_7 hH
  obtain ⟨mF, rF, HF, b1, ⟨f0, f65, f73⟩, f81, f81', f82, f83, f83', f84, f86, f87⟩ := r_emboss e T M c k b x w t P n f cp he12 H1 hb.1 hc ⟨k0, hk20⟩ (by rw [M37]; exact hb.2) (by rw [M37]; exact hk) (by rw [M8]; exact hx) (by rw [Ml 51 (by decide) (by decide)]; exact hw) (by rw [Ml 52 (by decide) (by decide)]; exact ht) (by rw [Ml 53 (by decide) (by decide)]; exact h53) (by rw [Ml 54 (by decide) (by decide)]; exact h54) (by rw [Mx 9 (by decide)]; exact hP) (by rw [Mx2]; exact hf) x103 hn n14 ⟨Pr.1, Pr.2.2⟩ (fun q q1 q2 => ⟨by rw [Ml 81 (by decide) (by decide)]; exact hcp q q1 q2, cpr q q1 q2⟩) (by rw [M37]; exact l73)
  have shM : qsh M b = qsh (zm S) b := by
    unfold qsh
    rw [Ml 53 (by decide) (by decide), M8, hx, Mx 9 (by decide)]
  have zS2 : (zn S : Int) ≠ 102 ∧ (zn S : Int) + 1 ≠ 102 ∧ (zn S : Int) + 2 ≠ 102 ∧ 10 + c ≠ 102 := by omega
  have H6 : qHC (qW T mF) := q_em_2 hH hk hk20 hb hx hc hw ht hP h54 hn hf hcp x103 ⟨nT, zT, wT⟩ kT MS Ml M3 (by rw [Mo 3 (by decide), C39]) (fun i => by rw [Mo 13 (by decide), C13]) (fun q q1 q2 => by rw [Mo (10 + c) zS2.2.2.2, C10 q q1 q2]) Mx (by rw [Mo x x102, Cx13]) (by rw [Mo (zn S) zS2.1]; exact CN) (fun i hi => by rw [Mo _ zS2.2.1, CF i hi]) (fun j => by rw [Mo _ zS2.2.2.1, CH j]) shM HF b1 f65 f73 f81 f81' f82 f83 f83' f84 f86 f87
  refine ⟨qW T mF, by rw [hq1]; exact rF, ⟨?_, fun z hz => by rw [qkW]; exact kT' z hz⟩, f0, ?_, H6, ?_, ?_⟩
  · show mF 1 = zm S 1
    rw [← M1]
    exact funext fun i => b1 1 i (by unfold qfly; omega)
  · show mF 102 0 = _
    rw [b1 102 0 (by unfold qfly; omega), ← hM, qu_s]
  · show zc T ≤ zc S + 500
    rw [zT]
    exact Nat.add_le_add_left (by decide) _
  · show ((zw T : Nat) : Int) ≤ zw S + 2000 + 15000 * ((mF 37 16 + mF 37 65) - (zm S 37 16 + zm S 37 65))
    rw [b1 37 16 (by unfold qfly; omega), f65, M37, hk]
    exact q_em_w wT n14 Pr.2.2
theorem q_emboss (d : Nat) (S : zS) (c b : Int) (h : 14 ≤ d) (hH : qHC S) :
    qUn vi qid (qGo S) S (zD d 137 [vr 3, vi c, vi b] S) (zD d 276 [vr 37, vi c, vi b]) qpsE := by
  obtain ⟨⟨⟨⟨hK, hP, hL, hn⟩, -, ⟨p1, p2, p3, p4, p5, p6⟩, hY⟩, hBB⟩, hYC, hFc⟩ := id hH
  by_cases c0 : (0 ≤ c ∧ c < 3) ∧ (0 ≤ b ∧ b < zm S 37 16)
  · obtain ⟨hc, hb⟩ := c0
    obtain ⟨e, rfl, he⟩ := qd h
    by_cases c1 : zm S 54 b = 0 ∨ zm S 37 65 = 20
    · have hKb : qK (zbump S) := hK
      obtain ⟨⟨kx, -⟩, -, -, -, -, -, -, ⟨x7, -⟩, -⟩ := hY.2.1 b hb.1 hb.2
      have bo := s_bookOf_y e S b (by omega) hK hP hY.1 hb
      have b4 : b < 4 := by have := hY.1.2; omega
      have n65 := p4.1
      refine qUn_cn hH ⟨1, ?_, ?_, by decide⟩ fun m2 f H => qGo_x hH f H
      · by_cases c2 : zm S 54 b = 0
        · simp (config := { maxSteps := 2000000 }) (disch := first | omega | (simp only [K_3 hK, kx, qb_in, qkW, qmW, qnW, true_and, and_true, or_self, true_or, or_true, and_self]; done) | (simp only [K_3 hK, kx, qb_in, qkW, qmW, qnW, true_and, and_true, or_self, true_or, or_true, and_self]; omega)) only [zD_137, b137_0, b137_4, b137_9, b137_20, b137_25, b137_33, b137_42, b137_53, b137_62, b137_75, b137_93, b137_110, qcall_l, qcall_r, qretn_l, qJ_s, qJ_n, qV0, qEx, ↓qif0, ↓zchk_pos, ↓reduceIte, qput, qWW, qmW, qkW, qnW, K_3 hK, if_neg (show ¬ c < 0 by omega), if_pos hc.2, bo, kx, x7, if_pos c2]
        · simp (config := { maxSteps := 2000000 }) (disch := first | omega | (simp only [K_3 hK, kx, qb_in, qkW, qmW, qnW, true_and, and_true, or_self, true_or, or_true, and_self]; done) | (simp only [K_3 hK, kx, qb_in, qkW, qmW, qnW, true_and, and_true, or_self, true_or, or_true, and_self]; omega)) only [zD_137, b137_0, b137_4, b137_9, b137_20, b137_25, b137_33, b137_42, b137_53, b137_62, b137_75, b137_93, b137_110, qcall_l, qcall_r, qretn_l, qJ_s, qJ_n, qV0, qEx, ↓qif0, ↓zchk_pos, ↓reduceIte, qput, qWW, qmW, qkW, qnW, K_3 hK, if_neg (show ¬ c < 0 by omega), if_pos hc.2, bo, kx, x7, if_neg c2, n65.1, if_neg (show ¬ zm S 37 65 < 20 by omega)]
      · have ie := r_isEmbosser e (zbump S) c (by omega)
        rw [qb_p (show 0 ≤ c ∧ c ≤ 2 by omega)] at ie
        have ib := r_isbook_y e (zbump S) b (by omega) hK hY.1.2 hb
        have p22 : zm (zbump S) 37 22 = 54 := P_37_22 hP
        have hd := r_refuse e S 2 (by omega) hK (by decide)
        by_cases c2 : zm S 54 b = 0
        · have e54 : zm (zbump S) 54 b = 0 := c2
          simp (config := { maxSteps := 2000000 }) (disch := first | omega | (simp only [K_37 hKb, K_54 hKb, p22, hb.1, b4, qb_in, qkW, qmW, qnW, true_and, and_true, or_self, true_or, or_true, and_self]; done) | (simp only [K_37 hKb, K_54 hKb, p22, hb.1, b4, qb_in, qkW, qmW, qnW, true_and, and_true, or_self, true_or, or_true, and_self]; omega)) only [zD_276, b276_0, b276_4, b276_7, b276_12, b276_15, b276_19, b276_20, b276_26, b276_30, b276_39, b276_48, b276_52, b276_53, b276_56, b276_59, b276_61, b276_79, b276_91, b276_98, b276_114, b276_121, b276_126, b276_128, b276_146, b276_160, b276_176, b276_187, b276_205, b276_212, b276_228, b276_237, b276_239, b276_257, qcall_l, qcall_r, qretn_l, qJ_s, qJ_n, qV0, qEx, ↓qif0, ↓zchk_pos, ↓reduceIte, qput, qWW, qmW, qkW, qnW, K_37 hKb, K_54 hKb, ie, ib, p22, e54, hd, Int.reduceEq]
          rfl
        · have e54 : ¬ zm (zbump S) 54 b = 0 := c2
          have e65 : zm (zbump S) 37 65 = 20 := by show zm S 37 65 = 20; omega
          simp (config := { maxSteps := 2000000 }) (disch := first | omega | (simp only [K_37 hKb, K_54 hKb, p22, hb.1, b4, qb_in, qkW, qmW, qnW, true_and, and_true, or_self, true_or, or_true, and_self]; done) | (simp only [K_37 hKb, K_54 hKb, p22, hb.1, b4, qb_in, qkW, qmW, qnW, true_and, and_true, or_self, true_or, or_true, and_self]; omega)) only [zD_276, b276_0, b276_4, b276_7, b276_12, b276_15, b276_19, b276_20, b276_26, b276_30, b276_39, b276_48, b276_52, b276_53, b276_56, b276_59, b276_61, b276_79, b276_91, b276_98, b276_114, b276_121, b276_126, b276_128, b276_146, b276_160, b276_176, b276_187, b276_205, b276_212, b276_228, b276_237, b276_239, b276_257, qcall_l, qcall_r, qretn_l, qJ_s, qJ_n, qV0, qEx, ↓qif0, ↓zchk_pos, ↓reduceIte, qput, qWW, qmW, qkW, qnW, K_37 hKb, K_54 hKb, ie, ib, p22, if_neg e54, e65, hd, Int.reduceEq]
          rfl
    · have n54 := (hY.2.1 b hb.1 hb.2).2.2.2.2.2.2.2.1.2
      have n65 := p4.1.2
      exact q_emboss_y e S _ c b _ _ _ _ he hH rfl (by omega) hb rfl hc rfl rfl rfl (by omega)
  · exact qUn_cn hH (q_emboss_n d S c b (by omega) hK hY.1 (by omega)) fun m2 f H => qGo_x hH f H
