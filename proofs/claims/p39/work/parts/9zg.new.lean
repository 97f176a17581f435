/-! Two houses are made. -/
def pNew (N x y : Int) : Prop := (x = 0 ∧ y = 0) ∨ (x = 2 ∧ y = 2) ∨ (x = 3 ∧ y = N)
def pSame (x y : Int) : Prop := x = y ∧ (x = 0 ∨ x = 2 ∨ x = 37)
theorem h_new {L : Nat} {sc : Int → Int} {d : Nat} {S1 : zS} (hrun : zD d 114 [vr 3] (zalloc (zS0 L sc) 32 0 18) = some (.inl none, S1)) (Z : zS) (hz : 3 ≤ zn Z) (k0 : zk Z 0 = (99, 0)) (m0 : ∀ j, zm Z 0 j = 0) (k2 : zk Z 2 = (40, 26)) (m2 : ∀ j : Int, zm Z 2 j = (zlet j.toNat : Int)) :
    ∃ (Z1 : zS) (r : Int → Int → Prop), zDr d 114 [vr (zn Z : Int)] (zalloc Z 32 0 18) = some (.inl none, Z1) ∧ zRg zrefk r S1 Z1 ∧ r 3 (zn Z : Int) ∧ (∀ x y, r x y → y = 0 ∨ y = 2 ∨ (zn Z : Int) ≤ y) ∧ (zmono Z Z1 ∧ (zn Z : Int) < zn Z1) ∧ (∀ x : Int, x < zn Z → zm Z1 x = zm Z x) ∧ (zc Z1 = zc S1 + zc Z ∧ zw Z1 = zw S1 + zw Z) ∧ zk S1 0 = (99, 0) ∧ zk S1 2 = (40, 26) := by
  obtain ⟨N, hN⟩ : ∃ N : Int, (zn Z : Int) = N := ⟨_, rfl⟩
  have n3 : (zn (zS0 L sc) : Int) = 3 := rfl
  have kS : ∀ x : Int, zk (zalloc (zS0 L sc) 32 0 18) x = if x = 3 then (32, 0) else zk (zS0 L sc) x := fun x => by rw [qal_k, n3]
  have kZ : ∀ x : Int, zk (zalloc Z 32 0 18) x = if x = N then (32, 0) else zk Z x := fun x => by rw [qal_k, hN]
  have mS : ∀ x : Int, x ≠ 3 → zm (zalloc (zS0 L sc) 32 0 18) x = zm (zS0 L sc) x := fun x hx => by rw [qal_m, n3, qz_o _ hx]
  have mZ : ∀ x : Int, x ≠ N → zm (zalloc Z 32 0 18) x = zm Z x := fun x hx => by rw [qal_m, hN, qz_o _ hx]
  have mS3 : ∀ j : Int, zm (zalloc (zS0 L sc) 32 0 18) 3 j = 0 := fun j => by rw [qal_m, n3, qz_s]
  have mZN : ∀ j : Int, zm (zalloc Z 32 0 18) N j = 0 := fun j => by rw [qal_m, hN, qz_s]
  have nS : (zn (zalloc (zS0 L sc) 32 0 18) : Int) = 4 := by rw [qal_n, n3]; rfl
  have nZ : (zn (zalloc Z 32 0 18) : Int) = N + 1 := by rw [qal_n, hN]
  have R : zRg zrefk (pNew N) (zalloc (zS0 L sc) 32 0 18) (zalloc Z 32 0 18) := by
    refine ⟨⟨⟨Or.inl ⟨rfl, rfl⟩, Or.inr (Or.inl ⟨rfl, rfl⟩)⟩, fun a b c h g => by unfold pNew at h g; omega, fun a b c h g => by unfold pNew at h g; omega, fun a b h => by unfold pNew at h; omega⟩, ⟨by omega, by omega⟩, fun x y h => ?_⟩
    rcases h with ⟨rfl, rfl⟩ | ⟨rfl, rfl⟩ | ⟨rfl, rfl⟩
    · have e1 : zk (zalloc (zS0 L sc) 32 0 18) 0 = (99, 0) := by rw [kS, if_neg (by decide)]; rfl
      refine ⟨⟨by omega, by omega⟩, by rw [e1, kZ, if_neg (by omega), k0], fun j => ⟨fun q => ?_, fun _ => ?_⟩⟩
      · rw [e1] at q
        cases q
      · rw [mS 0 (by decide), mZ 0 (by omega), m0]
        rfl
    · have e1 : zk (zalloc (zS0 L sc) 32 0 18) 2 = (40, 26) := by rw [kS, if_neg (by decide)]; rfl
      refine ⟨⟨by omega, by omega⟩, by rw [e1, kZ, if_neg (by omega), k2], fun j => ⟨fun q => ?_, fun _ => ?_⟩⟩
      · rw [e1] at q
        cases q
      · rw [mS 2 (by decide), mZ 2 (by omega), m2]
        rfl
    · refine ⟨⟨by omega, by omega⟩, by rw [kS, if_pos rfl, kZ, if_pos rfl], fun j => ⟨fun _ => ?_, fun _ => ?_⟩⟩
      · rw [mS3, mZN]
        exact Or.inl ⟨rfl, rfl⟩
      · rw [mS3, mZN]
  obtain ⟨⟨o', Z1⟩, r, e1, ⟨x1, x2, x3, ⟨n1, n2, n3'⟩, ⟨m1, m1'⟩, f1, f2, ⟨f3, f4⟩, f5, f6⟩, e3⟩ := z_sim d 114 (by rfl) [vr 3] [vr N] (pNew N) _ _ R ⟨Or.inr (Or.inr ⟨rfl, rfl⟩), trivial⟩ _ hrun
  obtain rfl : o' = .inl none := hO_r (o := .inl none) trivial e3
  dsimp only at n1 n2 n3' m1 m1' f2 f4 x1 x3
  have zS1 : ((zn (zalloc Z 32 0 18) : Nat) : Int) ≤ zn Z1 := by have := m1'.1; omega
  have fr : ∀ x : Int, x < N → zm Z1 x = zm Z x := fun x hx => by
    rw [← mZ x (by omega)]
    by_cases c : x = 0 ∨ x = 2
    · refine f4 x (by omega) ?_
      rcases c with rfl | rfl
      · right; rw [kZ, if_neg (by omega), k0]
      · left; rw [kZ, if_neg (by omega), k2]
    · exact f2 x (by omega) fun a ha => by unfold pNew at ha; omega
  have kk : ∀ x : Int, x < N → zk Z1 x = zk Z x := fun x hx => by rw [m1'.2.2.2 x (by omega), kZ, if_neg (by omega)]
  have c1 : zc (zalloc (zS0 L sc) 32 0 18) = 1 := rfl
  have c2 : zc (zalloc Z 32 0 18) = zc Z + 1 := rfl
  have w1 : zw (zalloc (zS0 L sc) 32 0 18) = 18 := rfl
  have w2 : zw (zalloc Z 32 0 18) = zw Z + 18 := rfl
  rw [hN]
  refine ⟨Z1, r, e1, x1, x2 _ _ (Or.inr (Or.inr ⟨rfl, rfl⟩)), fun x y q => ?_, ⟨⟨by omega, by omega, by omega, fun x hx => kk x (by omega)⟩, by omega⟩, fr, ⟨by omega, by omega⟩, ?_, ?_⟩
  · rcases x3 x y q with q | q
    · unfold pNew at q
      omega
    · omega
  · rw [(x1.2.2 0 0 x1.1.1.1).2.1, kk 0 (by omega), k0]
  · rw [(x1.2.2 2 2 x1.1.1.2).2.1, kk 2 (by omega), k2]
/-- the shadow is made behind the class -/
theorem h_grow {d : Nat} {S1 S3 : zS} (hn : (zn S1 : Int) = 37) (k0 : zk S1 0 = (99, 0)) (k2 : zk S1 2 = (40, 26)) (hrun : zD d 180 [vr 37] (zalloc S1 33 0 95) = some (.inl none, S3)) : zmono S1 (zalloc S3 1 1 1) ∧ ∀ x : Int, x < 37 → zm (zalloc S3 1 1 1) x = zm S1 x := by
  have kS : ∀ x : Int, zk (zalloc S1 33 0 95) x = if x = 37 then (33, 0) else zk S1 x := fun x => by rw [qal_k, hn]
  have mS : ∀ x : Int, x ≠ 37 → zm (zalloc S1 33 0 95) x = zm S1 x := fun x hx => by rw [qal_m, hn, qz_o _ hx]
  have mS3 : ∀ j : Int, zm (zalloc S1 33 0 95) 37 j = 0 := fun j => by rw [qal_m, hn, qz_s]
  have nS : (zn (zalloc S1 33 0 95) : Int) = 38 := by rw [qal_n, hn]; rfl
  have e0 : zk (zalloc S1 33 0 95) 0 = (99, 0) := by rw [kS, if_neg (by decide), k0]
  have e2 : zk (zalloc S1 33 0 95) 2 = (40, 26) := by rw [kS, if_neg (by decide), k2]
  have R : zRg zrefk pSame (zalloc S1 33 0 95) (zalloc S1 33 0 95) := by
    refine ⟨⟨⟨⟨rfl, Or.inl rfl⟩, rfl, Or.inr (Or.inl rfl)⟩, fun a b c h g => h.1.symm.trans g.1, fun a b c h g => h.1.trans g.1.symm, fun a b h => Or.inl h.1⟩, ⟨by omega, by omega⟩, fun x y h => ?_⟩
    obtain ⟨rfl, h⟩ := h
    refine ⟨⟨by omega, by omega⟩, rfl, fun j => ⟨fun q => ?_, fun _ => rfl⟩⟩
    rcases h with rfl | rfl | rfl
    · rw [e0] at q
      cases q
    · rw [e2] at q
      cases q
    · rw [mS3]
      exact ⟨rfl, Or.inl rfl⟩
  obtain ⟨⟨o', S3'⟩, r, e1, ⟨x1, x2, x3, -, ⟨m1, m1'⟩, f1, f2, ⟨f3, f4⟩, f5, f6⟩, e3⟩ := z_sim2 d 180 (by rfl) [vr 37] [vr 37] pSame _ _ R ⟨⟨rfl, Or.inr (Or.inr rfl)⟩, trivial⟩ _ hrun
  dsimp only at m1 f1 f3
  have c1 : zc (zalloc S1 33 0 95) = zc S1 + 1 := rfl
  have w1 : zw (zalloc S1 33 0 95) = zw S1 + 95 := rfl
  have c2 : zc (zalloc S3 1 1 1) = zc S3 + 1 := rfl
  have w2 : zw (zalloc S3 1 1 1) = zw S3 + 1 := rfl
  have n2 := qal_n S3 1 1 1
  obtain ⟨l1, l2, l3, l4⟩ := m1
  refine ⟨⟨by omega, by omega, by omega, fun x hx => ?_⟩, fun x hx => ?_⟩
  · rw [qal_o _ _ _ _ (by omega), l4 x (by omega), kS, if_neg (by omega)]
  · rw [qal_m, qz_o _ (by omega), ← mS x (by omega)]
    by_cases c : x = 0 ∨ x = 2
    · refine f3 x (by omega) ?_
      rcases c with rfl | rfl
      · right; rw [e0]
      · left; rw [e2]
    · exact f1 x (by omega) fun b hb => by
        obtain ⟨rfl, hb⟩ := hb
        omega
/-- a new house's numbers -/
def hZ0 (m : Int → Int → Int) (A B C : Int) : Prop := m 37 2 = 0 ∧ m 37 4 = A ∧ m 37 16 = B ∧ m 37 50 = -1 ∧ m 37 65 = 0 ∧ m 37 76 = C ∧ ∀ c, m 39 c = 0
theorem hZ0_I {m : Int → Int → Int} {A B C : Int} (h : hZ0 m A B C) : hI m := by
  obtain ⟨-, -, -, -, h65, -, h39⟩ := h
  exact ⟨fun c k _ _ k0 k1 => by rw [h39] at k1; omega, fun k k0 k1 => by omega, fun k k0 k1 => by omega⟩
theorem h_two (L : Nat) (sc : Int → Int) : ∃ (V Z1 Z2 : zS), zDr 799 114 [vr 3] (zalloc (zS0 L sc) 32 0 18) = some (.inl none, Z1) ∧ (zn Z1 : Int) ≠ 0 ∧ zDr 799 114 [vr (zn Z1 : Int)] (zalloc Z1 32 0 18) = some (.inl none, Z2) ∧ hH 3 (zn Z1 : Int) Z2 V V ∧ qHC V ∧ hZ0 (zm V) 0 0 0 ∧ zk Z2 1 = (40, (L : Int)) ∧ zc Z2 ≤ 200 ∧ zw Z2 ≤ 200000 := by
  obtain ⟨S1, S3, W, ps, r1, hn, r3, h, hW, hp⟩ := q_start 797 (zS0 L sc) (q_zS0 L sc)
  obtain ⟨hH, h5, e16, e65⟩ := q_isnewH h hp
  obtain ⟨V, hV⟩ : ∃ V, zalloc S3 1 1 1 = V := ⟨_, rfl⟩
  obtain ⟨Z1, r, q1, g1, g2, g3, ⟨g4, g5⟩, g6, ⟨g7, g8⟩, s0, s2⟩ := h_new r1 (zS0 L sc) (Nat.le_refl _) rfl (fun _ => rfl) rfl (fun _ => rfl)
  obtain ⟨gm, gf⟩ := h_grow hn s0 s2 r3
  rw [hV] at h hH h5 e16 e65 gm gf
  have z3 : (zn (zS0 L sc) : Int) = 3 := rfl
  rw [z3] at q1 g2 g3 g5
  have kz : ∀ x : Int, x < 3 → zk Z1 x = zk (zS0 L sc) x := fun x hx => g4.2.2.2 x (by omega)
  have mz : ∀ x : Int, x < 3 → zm Z1 x = zm (zS0 L sc) x := fun x hx => g6 x (by omega)
  obtain ⟨Z2, s, p1, f1, f2, f3, ⟨f4, f5⟩, f6, ⟨f7, f8⟩, -, -⟩ := h_new r1 Z1 (by omega) (by rw [kz 0 (by decide)]; rfl) (fun j => by rw [mz 0 (by decide)]; rfl) (by rw [kz 2 (by decide)]; rfl) (fun j => by rw [mz 2 (by decide)]; rfl)
  have nV : (zn V : Int) = 103 := h.1
  have up : ∀ (q : Int → Int → Prop) (Z : zS), zRg zrefk q S1 Z → zRg zrefk q V Z := fun q Z hq => by
    refine ⟨hq.1, ⟨by omega, hq.2.1.2⟩, fun x y hxy => ?_⟩
    obtain ⟨⟨l1, l2⟩, l3, l4⟩ := hq.2.2 x y hxy
    refine ⟨⟨by omega, l2⟩, by rw [gm.2.2.2 x l1]; exact l3, fun j => ?_⟩
    rw [gm.2.2.2 x l1, gf x (by omega)]
    exact l4 j
  have g1' : zRg zrefk r S1 Z2 := by
    refine ⟨g1.1, ⟨g1.2.1.1, by have := f4.1; have := g1.2.1.2; omega⟩, fun x y hxy => ?_⟩
    obtain ⟨⟨l1, l2⟩, l3, l4⟩ := g1.2.2 x y hxy
    refine ⟨⟨l1, by have := f4.1; omega⟩, by rw [f4.2.2.2 y l2]; exact l3, fun j => ?_⟩
    rw [f6 y l2]
    exact l4 j
  have kz2 : ∀ x : Int, x < 3 → zk Z2 x = zk (zS0 L sc) x := fun x hx => by rw [f4.2.2.2 x (by omega), kz x hx]
  have hm : ∀ a j, 3 ≤ a → a < 103 → zm V a j = qst0 a j := fun a j h1 h2 => (h.2.2.1 a j h1 h2).trans (hp a j)
  have zM : ∀ a j, 37 ≤ a → a < 103 → a ≠ 81 → (∀ p ∈ qpsM0, p.1 ≠ a) → zm V a j = 0 := fun a j h1 h2 h3 h4 => (hm a j (by omega) h2).trans (qst0_M h1 h3 h4 j)
  have cV : zc V + 3 = zn V := h.2.2.2.2.2.1
  have wV : zw V = W := h.2.2.2.2.2.2.1
  have zc0 : zc (zS0 L sc) = 0 := rfl
  have zw0 : zw (zS0 L sc) = 0 := rfl
  have lc := gm.2.1
  have lw := gm.2.2.1
  refine ⟨V, Z1, Z2, q1, by omega, p1, ⟨r, s, ⟨up r Z2 g1', g2, fun x y q => ?_, by omega⟩, ⟨up s Z2 f1, f2, fun x y q => ?_, by omega⟩, fun x y z a b => ?_, by rw [kz2 0 (by decide)]; rfl, by rw [kz2 2 (by decide)]; rfl⟩, hH, ⟨(hm 37 2 (by decide) (by decide)).trans (by decide +kernel), (hm 37 4 (by decide) (by decide)).trans (by decide +kernel), e16, (hm 37 50 (by decide) (by decide)).trans (by decide +kernel), e65, (hm 37 76 (by decide) (by decide)).trans (by decide +kernel), fun c => zM 39 c (by decide) (by decide) (by decide) (by decide +kernel)⟩, ?_, by omega, by omega⟩
  · have := (g1.2.2 x y q).1.1
    omega
  · have := (f1.2.2 x y q).1.1
    omega
  · have l := (g1.2.2 x z a).1.2
    have := f3 y z b
    omega
  · rw [kz2 1 (by decide)]
    rfl
