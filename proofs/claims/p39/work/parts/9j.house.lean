/-! A machine's memory with two houses: each is the class of a house with a shadow, up to where its objects lie. -/
def hR (Z : zS) (a : Int) (V : zS) (r : Int → Int → Prop) : Prop := zRg zrefk r V Z ∧ r 3 a ∧ (∀ x y, r x y → x < 37 ∨ 102 < x) ∧ (103 : Int) ≤ zn V
def hH (a b : Int) (Z V W : zS) : Prop := ∃ r s, hR Z a V r ∧ hR Z b W s ∧ (∀ x y z, r x z → s y z → z = 0 ∨ z = 2) ∧ (zk Z 0).1 = 99 ∧ (zk Z 2).1 = 40
/-- the shadow's objects -/
def gs (x : Int) : Prop := x = 0 ∨ x = 2 ∨ (37 ≤ x ∧ x ≤ 101)
def hG (V W : zS) : Prop := ∀ x, gs x → zm V x = zm W x
def gid (x y : Int) : Prop := x = y ∧ gs x
/-- one call of one house, its partner untouched -/
def hS (d y : Nat) (as : List zV) (o : zO) (V V2 : zS) : Prop := ∀ Z a b W, hH a b Z V W → ∃ Z1, zDr d y (vr a :: as) Z = some (o, Z1) ∧ hH a b Z1 V2 W ∧ zmono Z Z1 ∧ zc Z1 + zc V ≤ zc V2 + zc Z ∧ zw Z1 + zw V ≤ zw V2 + zw Z ∧ ∀ x : Int, x < zn Z → ((zk Z x).1 = 40 ∨ (zk Z x).1 = 99) → zm Z1 x = zm Z x
theorem hH.symm {a b : Int} {Z V W : zS} (h : hH a b Z V W) : hH b a Z W V := by
  obtain ⟨r, s, h1, h2, h3, h4⟩ := h
  exact ⟨s, r, h2, h1, fun x y z q1 q2 => h3 y x z q2 q1, h4⟩
/-- numbers alone -/
def hN : List zV → Prop
  | [] => True
  | .inl _ :: l => hN l
  | .inr (.inl _) :: l => hN l
  | _ => False
theorem hN_r {r : Int → Int → Prop} : ∀ {l : List zV}, hN l → zLr r l l
  | [], _ => trivial
  | .inl _ :: l, h => ⟨rfl, hN_r (l := l) h⟩
  | .inr (.inl _) :: l, h => ⟨rfl, hN_r (l := l) h⟩
  | .inr (.inr _) :: _, h => absurd h id
def hO : zO → Prop
  | .inl none => True
  | .inl (some (.inl _)) => True
  | .inl (some (.inr (.inl _))) => True
  | .inr _ => True
  | _ => False
theorem hO_r {r : Int → Int → Prop} : ∀ {o o' : zO}, hO o → zOr r o o' → o' = o
  | .inl none, .inl none, _, _ => rfl
  | .inl (some (.inl _)), .inl (some (.inl _)), _, g => by rw [show _ = _ from g]
  | .inl (some (.inr (.inl _))), .inl (some (.inr (.inl _))), _, g => by rw [show _ = _ from g]
  | .inr _, .inr _, _, g => by rw [show _ = _ from g]
  | .inl (some (.inr (.inr _))), _, h, _ => absurd h id
/-- the class's part alone: what it leaves as it was in the house with a shadow -/
def hF (V V1 : zS) : Prop := zmono V V1 ∧ (∀ x : Int, 37 ≤ x → x ≤ 102 → zm V1 x = zm V x) ∧ (∀ x : Int, x < zn V → ((zk V x).1 = 40 ∨ (zk V x).1 = 99) → zm V1 x = zm V x) ∧ ∀ x j : Int, x < zn V → j < 0 → zm V1 x j = zm V x j
theorem h_run {a b : Int} {Z V W V1 : zS} {d y : Nat} {as : List zV} {o : zO} (h : hH a b Z V W) (hy : zC1 y = true) (ha : hN as) (ho : hO o) (r : zD d y (vr 3 :: as) V = some (o, V1)) :
    ∃ Z1, zDr d y (vr a :: as) Z = some (o, Z1) ∧ hH a b Z1 V1 W ∧ zmono Z Z1 ∧ zc Z1 + zc V = zc V1 + zc Z ∧ zw Z1 + zw V = zw V1 + zw Z ∧ (∀ x : Int, x < zn Z → ((zk Z x).1 = 40 ∨ (zk Z x).1 = 99) → zm Z1 x = zm Z x) ∧ hF V V1 := by
  obtain ⟨p, s, ⟨g1, g2, g3, g4⟩, ⟨k1, k2, k3, k4⟩, hd, z0, z2⟩ := h
  obtain ⟨⟨o', Z1⟩, p', e1, ⟨x1, x2, x3, ⟨n1, n2, n3⟩, ⟨m1, m2⟩, f1, f2, ⟨f3, f4⟩, f5, f6⟩, e3⟩ := z_sim d y hy (vr 3 :: as) (vr a :: as) p V Z g1 ⟨g2, hN_r ha⟩ _ r
  obtain rfl : o' = o := hO_r ho e3
  dsimp only at n1 n2 n3 m1 m2
  have dom : ∀ x y, p' x y → x < 37 ∨ 102 < x := fun x y q => by
    rcases x3 x y q with q | q
    · exact g3 x y q
    · right; have := g4; omega
  have keep : ∀ z : Int, z < zn Z → (∀ x, p x z → z = 0 ∨ z = 2) → zm Z1 z = zm Z z := fun z hz q => by
    by_cases c : ∃ x, p x z
    · obtain ⟨x, hx⟩ := c
      refine f4 z hz ?_
      rcases q x hx with e | e
      · right; rw [e, z0]
      · left; rw [e, z2]
    · exact f2 z hz fun x hx => c ⟨x, hx⟩
  refine ⟨Z1, e1, ⟨p', s, ⟨x1, x2 _ _ g2, dom, by have := m1.1; omega⟩, ⟨⟨k1.1, ⟨k1.2.1.1, by have := m2.1; have := k1.2.1.2; omega⟩, fun x y q => ?_⟩, k2, k3, k4⟩, fun x y z q1 q2 => ?_, ?_, ?_⟩, m2, by omega, by omega, f4, m1, fun x h1 h2 => ?_, f3, f5⟩
  · obtain ⟨⟨l1, l2⟩, l3, l4⟩ := k1.2.2 x y q
    have := m2.1
    refine ⟨⟨l1, by show y < ((zn Z1 : Nat) : Int); omega⟩, by rw [m2.2.2.2 y l2]; exact l3, fun j => ?_⟩
    rw [keep y l2 fun x' hx' => hd x' x y hx' q]
    exact l4 j
  · rcases x3 x z q1 with q | q
    · exact hd x y z q q2
    · have := (k1.2.2 y z q2).1.2
      omega
  · rw [m2.2.2.2 0 (by have := k1.2.1.2; omega)]
    exact z0
  · rw [m2.2.2.2 2 (by have := k1.2.1.2; omega)]
    exact z2
  · refine f1 x (by omega) fun y q => ?_
    have := g3 x y q
    omega
/-- the house with a shadow changes apart from its class -/
theorem hH.ghost {a b : Int} {Z V V2 W : zS} (h : hH a b Z V W) (hm : zmono V V2) (hz : ∀ x : Int, x < zn V → ¬ (37 ≤ x ∧ x ≤ 102) → zm V2 x = zm V x) : hH a b Z V2 W := by
  obtain ⟨p, s, ⟨g1, g2, g3, g4⟩, g5, hd, z⟩ := h
  have m1 := hm.1
  refine ⟨p, s, ⟨⟨g1.1, ⟨by have := g1.2.1.1; omega, g1.2.1.2⟩, fun x y q => ?_⟩, g2, g3, by omega⟩, g5, hd, z⟩
  obtain ⟨⟨l1, l2⟩, l3, l4⟩ := g1.2.2 x y q
  have := g3 x y q
  refine ⟨⟨by omega, l2⟩, by rw [hm.2.2.2 x l1]; exact l3, fun j => ?_⟩
  rw [hm.2.2.2 x l1, hz x l1 (by omega)]
  exact l4 j
/-- one house's own kinds: null and the letters -/
theorem hH.k0 {a b : Int} {Z V W : zS} (h : hH a b Z V W) : (zk V 0).1 = 99 ∧ (zk V 2).1 = 40 := by
  obtain ⟨p, s, ⟨g1, g2, g3, g4⟩, -, -, z0, z2⟩ := h
  exact ⟨by rw [(g1.2.2 0 0 g1.1.1.1).2.1]; exact z0, by rw [(g1.2.2 2 2 g1.1.1.2).2.1]; exact z2⟩
/-! The shadow. -/
/-- the shadow's own pointers -/
def qPg (m : Int → Int → Int) : Prop := ∀ q ∈ qPt, q.1 = 37 → m q.1 q.2.1 = q.2.2
theorem qPg_P {m : Int → Int → Int} (h : qP m) : qPg m := fun q hq _ => h q hq
theorem qPg_37 {m m' : Int → Int → Int} (h : qPg m) (e : m' 37 = m 37) : qPg m' := fun q hq h1 => by
  have := h q hq h1
  rw [h1] at this ⊢
  rw [e]
  exact this
theorem gid_x {x y : Int} (h : gid x y) : x = y ∧ gs x := h
theorem zref13 : ∀ j ∈ zrefs 13, ∃ v, (37, (j, v)) ∈ qPt ∧ 38 ≤ v ∧ v ≤ 101 := by
  have h : (zrefs 13).all (fun j => qPt.any fun q => decide (q.1 = 37) && (decide (q.2.1 = j) && (decide (38 ≤ q.2.2) && decide (q.2.2 ≤ 101)))) = true := by decide +kernel
  intro j hj
  obtain ⟨⟨a, i, v⟩, h1, h2⟩ := List.any_eq_true.mp (List.all_eq_true.mp h j hj)
  simp only [Bool.and_eq_true, decide_eq_true_eq] at h2
  obtain ⟨rfl, rfl, h3, h4⟩ := h2
  exact ⟨v, h1, h3, h4⟩
theorem zref_gs {V : zS} (hK : qK V) (h0 : (zk V 0).1 = 99) {x : Int} (hx : gs x) {j : Int} (ht : zrefk (zk V x).1 j = some true) : x = 37 ∧ j ∈ zrefs 13 := by
  have hk : ∀ q ∈ qKt, 37 < q.1 → q.1 ≤ 101 → q.2.1 = 0 ∨ q.2.1 = 1 ∨ q.2.1 = 2 ∨ q.2.1 = 4 := by decide +kernel
  have no : ∀ k : Nat, k = 0 ∨ k = 1 ∨ k = 2 ∨ k = 4 ∨ k = 40 ∨ k = 99 → zrefk k j ≠ some true := by
    rintro k (rfl | rfl | rfl | rfl | rfl | rfl) <;> exact fun q => by cases q
  by_cases c : x = 37
  · refine ⟨c, ?_⟩
    rw [c, K_37 hK] at ht
    have h2 : (zrefs 13).any (fun x => decide (x = j)) = true := Option.some.inj ht
    obtain ⟨i, h3, h4⟩ := List.any_eq_true.mp h2
    rw [← of_decide_eq_true h4]
    exact h3
  · exfalso
    rcases hx with rfl | rfl | hx
    · exact no _ (by omega) ht
    · rw [K_2 hK] at ht
      exact no 40 (by decide) ht
    · have hm : ∀ i : Nat, i < 64 → ∃ q ∈ qKt, q.1 = 38 + (i : Int) := by decide +kernel
      obtain ⟨q, h1, h2⟩ := hm (x - 38).toNat (by omega)
      have e : q.1 = x := by omega
      have := hK q h1
      rw [e] at this
      rw [this] at ht
      have := hk q h1 (by omega) (by omega)
      exact no _ (by omega) ht
theorem h_gid {V W : zS} (hK : qK V) (hK' : qK W) (hP : qPg (zm V)) (hP' : qPg (zm W)) (hn : (103 : Int) ≤ zn V) (hn' : (103 : Int) ≤ zn W) (h0 : zk V 0 = zk W 0) (h99 : (zk V 0).1 = 99) (hg : hG V W) : zRg zrefk gid V W := by
  refine ⟨⟨⟨⟨rfl, Or.inl rfl⟩, ⟨rfl, Or.inr (Or.inl rfl)⟩⟩, fun a b c h g => h.1.symm.trans g.1, fun a b c h g => h.1.trans g.1.symm, fun a b h => Or.inl h.1⟩, ⟨by omega, by omega⟩, fun a b h => ?_⟩
  obtain ⟨rfl, h⟩ := h
  have hr : a ≤ 101 := by rcases h with h | h | h <;> omega
  have hk : zk V a = zk W a := by
    rcases h with rfl | rfl | h
    · exact h0
    · rw [K_2 hK, K_2 hK']
    · have hm : ∀ i : Nat, i < 65 → ∃ q ∈ qKt, q.1 = 37 + (i : Int) := by decide +kernel
      obtain ⟨q, h1, h2⟩ := hm (a - 37).toNat (by omega)
      have e : q.1 = a := by omega
      rw [← e, hK q h1, hK' q h1]
  refine ⟨⟨by omega, by omega⟩, hk, fun j => ⟨fun ht => ?_, fun _ => by rw [hg a h]⟩⟩
  obtain ⟨rfl, hj⟩ := zref_gs hK h99 h ht
  obtain ⟨v, h1, h2⟩ := zref13 j hj
  rw [show zm V 37 j = v from hP _ h1 rfl, show zm W 37 j = v from hP' _ h1 rfl]
  exact ⟨rfl, Or.inr (Or.inr (by omega))⟩
/-- the shadow's run leaves the class as it was -/
theorem h_ghost {V V2 : zS} {d y : Nat} {as : List zV} {o : zO} (hK : qK V) (hP : qPg (zm V)) (hn : (103 : Int) ≤ zn V) (h99 : (zk V 0).1 = 99) (hy : zC2 y = true) (ha : hN as) (r : zD d y (vr 37 :: as) V = some (o, V2)) :
    zmono V V2 ∧ (∀ x : Int, x < zn V → ¬ (37 ≤ x ∧ x ≤ 101) → zm V2 x = zm V x) ∧ ∀ x j : Int, x < zn V → j < 0 → zm V2 x j = zm V x j := by
  obtain ⟨⟨o', V2'⟩, p', e1, ⟨x1, x2, x3, -, ⟨m1, m2⟩, f1, f2, ⟨f3, f4⟩, f5, f6⟩, e3⟩ := z_sim2 d y hy (vr 37 :: as) (vr 37 :: as) gid V V (h_gid hK hK hP hP hn hn rfl h99 fun _ _ => rfl) ⟨⟨rfl, Or.inr (Or.inr (by decide))⟩, hN_r ha⟩ _ r
  refine ⟨m1, fun x hx hg => ?_, f5⟩
  by_cases c : x = 0 ∨ x = 2
  · refine f3 x hx ?_
    rcases c with rfl | rfl
    · exact Or.inr h99
    · left; rw [K_2 hK]
  · exact f1 x hx fun z hz => by
      rcases hz.2 with q | q | q <;> omega
/-- equal shadows answer alike, and stay equal -/
theorem h_alike {V W V2 : zS} {d y : Nat} {as : List zV} {o : zO} (hK : qK V) (hK' : qK W) (hP : qPg (zm V)) (hP' : qPg (zm W)) (hn : (103 : Int) ≤ zn V) (hn' : (103 : Int) ≤ zn W) (h0 : zk V 0 = zk W 0) (h99 : (zk V 0).1 = 99) (hg : hG V W)
    (hy : zC2 y = true) (ha : hN as) (ho : hO o) (r : zD d y (vr 37 :: as) V = some (o, V2)) : ∃ W2, zD d y (vr 37 :: as) W = some (o, W2) ∧ (qPg (zm V2) → qPg (zm W2) → hG V2 W2) := by
  obtain ⟨⟨o', W2⟩, p', e1, ⟨x1, x2, x3, -, ⟨m1, m2⟩, f1, f2, ⟨f3, f4⟩, f5, f6⟩, e3⟩ := z_sim2 d y hy (vr 37 :: as) (vr 37 :: as) gid V W (h_gid hK hK' hP hP' hn hn' h0 h99 hg) ⟨⟨rfl, Or.inr (Or.inr (by decide))⟩, hN_r ha⟩ _ r
  obtain rfl : o' = o := hO_r ho e3
  refine ⟨W2, e1, fun p2 p2' x hx => funext fun j => ?_⟩
  have hx2 := x2 x x ⟨rfl, hx⟩
  obtain ⟨⟨l1, l2⟩, l3, l4⟩ := x1.2.2 x x hx2
  have hr : x ≤ 101 := by rcases hx with h | h | h <;> omega
  have ek : zk V2 x = zk V x := m1.2.2.2 x (by omega)
  cases ht : zrefk (zk V2 x).1 j with
  | none => cases ht
  | some b =>
    cases b with
    | false => exact (l4 j).2 ht
    | true =>
      rw [ek] at ht
      obtain ⟨rfl, hj⟩ := zref_gs hK h99 hx ht
      obtain ⟨v, h1, -⟩ := zref13 j hj
      exact (p2 _ h1 rfl).trans (p2' _ h1 rfl).symm
