/-! Two runs of the same code over memories that are alike up to where their objects lie. -/
/-- r says which object of the one is which of the other; t tells which places hold references -/
def zRg (t : Nat → Int → Option Bool) (r : Int → Int → Prop) (S S' : zS) : Prop :=
  ((r 0 0 ∧ r 2 2) ∧ (∀ a b c, r a b → r a c → b = c) ∧ (∀ a b c, r a c → r b c → a = b) ∧ (∀ a b, r a b → a = b ∨ (3 ≤ a ∧ 3 ≤ b))) ∧ (3 ≤ zn S ∧ 3 ≤ zn S') ∧
  ∀ a b, r a b → (a < zn S ∧ b < zn S') ∧ zk S a = zk S' b ∧ ∀ j, (t (zk S a).1 j = some true → r (zm S a j) (zm S' b j)) ∧ (t (zk S a).1 j = some false → zm S a j = zm S' b j)
/-- what a run leaves as it was -/
def zFr (r : Int → Int → Prop) (S S' T T' : zS) : Prop :=
  (zn T + zn S' = zn T' + zn S ∧ zc T + zc S' = zc T' + zc S ∧ zw T + zw S' = zw T' + zw S) ∧ (zmono S T ∧ zmono S' T') ∧
  (∀ a : Int, a < zn S → (∀ b, ¬ r a b) → zm T a = zm S a) ∧ (∀ b : Int, b < zn S' → (∀ a, ¬ r a b) → zm T' b = zm S' b) ∧
  ((∀ a : Int, a < zn S → ((zk S a).1 = 40 ∨ (zk S a).1 = 99) → zm T a = zm S a) ∧ ∀ b : Int, b < zn S' → ((zk S' b).1 = 40 ∨ (zk S' b).1 = 99) → zm T' b = zm S' b) ∧
  (∀ a j : Int, a < zn S → j < 0 → zm T a j = zm S a j) ∧ ∀ b j : Int, b < zn S' → j < 0 → zm T' b j = zm S' b j
def zXt (t : Nat → Int → Option Bool) (r r' : Int → Int → Prop) (S S' T T' : zS) : Prop :=
  zRg t r' T T' ∧ (∀ a b, r a b → r' a b) ∧ (∀ a b, r' a b → r a b ∨ ((zn S : Int) ≤ a ∧ (zn S' : Int) ≤ b)) ∧ zFr r S S' T T'
def zVr (r : Int → Int → Prop) : zV → zV → Prop
  | .inl x, .inl y => x = y
  | .inr (.inl x), .inr (.inl y) => x = y
  | .inr (.inr (.inl a)), .inr (.inr (.inl b)) => r a b
  | .inr (.inr (.inr _)), .inr (.inr (.inr _)) => True
  | _, _ => False
def zLr (r : Int → Int → Prop) : List zV → List zV → Prop
  | [], [] => True
  | a :: as, b :: bs => zVr r a b ∧ zLr r as bs
  | _, _ => False
def zOr (r : Int → Int → Prop) : zO → zO → Prop
  | .inl (some v), .inl (some w) => zVr r v w
  | .inl none, .inl none => True
  | .inr e, .inr f => e = f
  | _, _ => False
def zPR (t : Nat → Int → Option Bool) (r : Int → Int → Prop) (S S' : zS) (R R' : zR) : Prop :=
  ∀ q, R = some q → ∃ q' r', R' = some q' ∧ zXt t r r' S S' q.2 q'.2 ∧ zOr r' q.1 q'.1
section
variable {t : Nat → Int → Option Bool} {r r1 r2 : Int → Int → Prop} {S S' S1 S1' S2 S2' : zS}
theorem zFr.rf : zFr r S S' S S' := ⟨⟨Nat.add_comm _ _, Nat.add_comm _ _, Nat.add_comm _ _⟩, ⟨zmono.rf S, zmono.rf S'⟩, fun _ _ _ => rfl, fun _ _ _ => rfl, ⟨fun _ _ _ => rfl, fun _ _ _ => rfl⟩, fun _ _ _ _ => rfl, fun _ _ _ _ => rfl⟩
theorem zXt.rf (h : zRg t r S S') : zXt t r r S S' S S' := ⟨h, fun _ _ g => g, fun _ _ g => Or.inl g, zFr.rf⟩
theorem zXt.tr (h : zXt t r r1 S S' S1 S1') (g : zXt t r1 r2 S1 S1' S2 S2') : zXt t r r2 S S' S2 S2' := by
  obtain ⟨-, h2, h3, ⟨n1, n2, n3⟩, ⟨m1, m1'⟩, f1, f2, ⟨f3, f4⟩, f5, f6⟩ := h
  obtain ⟨g1, g2, g3, ⟨k1, k2, k3⟩, ⟨m2, m2'⟩, e1, e2, ⟨e3, e4⟩, e5, e6⟩ := g
  have a1 := m1.1
  have a2 := m1'.1
  refine ⟨g1, fun a b q => g2 _ _ (h2 _ _ q), fun a b q => ?_, ⟨by omega, by omega, by omega⟩, ⟨m1.tr m2, m1'.tr m2'⟩, fun a ha hb => ?_, fun b hb ha => ?_, ⟨fun a ha h40 => ?_, fun b hb h40 => ?_⟩, fun a j ha hj => (e5 a j (by omega) hj).trans (f5 a j ha hj), fun b j hb hj => (e6 b j (by omega) hj).trans (f6 b j hb hj)⟩
  · rcases g3 _ _ q with q | q
    · exact h3 _ _ q
    · exact Or.inr (by omega)
  · refine (e1 a (by omega) fun b q => ?_).trans (f1 a ha hb)
    rcases h3 _ _ q with q | q
    · exact hb b q
    · omega
  · refine (e2 b (by omega) fun a q => ?_).trans (f2 b hb ha)
    rcases h3 _ _ q with q | q
    · exact ha a q
    · omega
  · exact (e3 a (by omega) (by rw [m1.2.2.2 a ha]; exact h40)).trans (f3 a ha h40)
  · exact (e4 b (by omega) (by rw [m1'.2.2.2 b hb]; exact h40)).trans (f4 b hb h40)
theorem zPR.go {R R' : zR} (x : zXt t r r1 S S' S1 S1') (h : zPR t r1 S1 S1' R R') : zPR t r S S' R R' := fun q e => by
  obtain ⟨q', r', h1, h2, h3⟩ := h q e
  exact ⟨q', r', h1, x.tr h2, h3⟩
theorem zPR.no {R' : zR} : zPR t r S S' none R' := fun q e => by cases e
theorem zPR.ret {o o' : zO} (h : zRg t r S S') (g : zOr r o o') : zPR t r S S' (some (o, S)) (some (o', S')) := fun q e => by
  cases e
  exact ⟨_, r, rfl, zXt.rf h, g⟩
theorem zPR.bump {e : Nat} (h : zRg t r S S') : zPR t r S S' (some (.inr e, zbump S)) (some (.inr e, zbump S')) := fun q e => by
  cases e
  have f : zFr r S S' (zbump S) (zbump S') := ⟨⟨Nat.add_comm _ _, by show (zc S + 1) + zc S' = (zc S' + 1) + zc S; omega, by show (zw S + 6) + zw S' = (zw S' + 6) + zw S; omega⟩, ⟨zmono_bump S, zmono_bump S'⟩, fun _ _ _ => rfl, fun _ _ _ => rfl, ⟨fun _ _ _ => rfl, fun _ _ _ => rfl⟩, fun _ _ _ _ => rfl, fun _ _ _ _ => rfl⟩
  exact ⟨_, r, rfl, ⟨h, fun _ _ g => g, fun _ _ g => Or.inl g, f⟩, rfl⟩
theorem zVr.mono (h : ∀ a b, r a b → r1 a b) : ∀ {v w : zV}, zVr r v w → zVr r1 v w
  | .inl _, .inl _, g => g
  | .inr (.inl _), .inr (.inl _), g => g
  | .inr (.inr (.inl a)), .inr (.inr (.inl b)), g => h a b g
  | .inr (.inr (.inr _)), .inr (.inr (.inr _)), _ => trivial
theorem zLr.mono (h : ∀ a b, r a b → r1 a b) : ∀ {as bs : List zV}, zLr r as bs → zLr r1 as bs
  | [], [], _ => trivial
  | _ :: _, _ :: _, g => ⟨zVr.mono h g.1, zLr.mono h g.2⟩
theorem zLr.len : ∀ {as bs : List zV}, zLr r as bs → as.length = bs.length
  | [], [], _ => rfl
  | _ :: _, _ :: _, g => congrArg (· + 1) (zLr.len g.2)
theorem zLr.get : ∀ {as bs : List zV} (i : Nat) {v : zV}, zLr r as bs → as[i]? = some v → ∃ w, bs[i]? = some w ∧ zVr r v w
  | [], [], i, v, _, h => by cases i <;> cases h
  | a :: as, b :: bs, 0, v, g, h => by
    cases h
    exact ⟨b, rfl, g.1⟩
  | a :: as, b :: bs, i + 1, v, g, h => by
    obtain ⟨w, h1, h2⟩ := zLr.get i g.2 (show as[i]? = some v from h)
    exact ⟨w, h1, h2⟩
theorem zLr.set {v w : zV} : ∀ {as bs : List zV} (i : Nat), zLr r as bs → zVr r v w → zLr r (as.set i v) (bs.set i w)
  | [], [], _, _, _ => trivial
  | _ :: _, _ :: _, 0, g, h => ⟨h, g.2⟩
  | _ :: _, _ :: _, i + 1, g, h => ⟨g.1, zLr.set i g.2 h⟩
theorem zLr.drop : ∀ {as bs : List zV} (i : Nat), zLr r as bs → zLr r (as.drop i) (bs.drop i)
  | [], [], 0, _ => trivial
  | [], [], _ + 1, _ => trivial
  | _ :: _, _ :: _, 0, g => g
  | _ :: _, _ :: _, i + 1, g => zLr.drop i g.2
theorem zLr.take : ∀ {as bs : List zV} (i : Nat), zLr r as bs → zLr r (as.take i) (bs.take i)
  | [], [], 0, _ => trivial
  | [], [], _ + 1, _ => trivial
  | _ :: _, _ :: _, 0, _ => trivial
  | _ :: _, _ :: _, i + 1, g => ⟨g.1, zLr.take i g.2⟩
theorem zLr.app : ∀ {as bs cs ds : List zV}, zLr r as bs → zLr r cs ds → zLr r (as ++ cs) (bs ++ ds)
  | [], [], _, _, _, h => h
  | _ :: _, _ :: _, _, _, g, h => ⟨g.1, zLr.app g.2 h⟩
theorem zLr.rev : ∀ {as bs : List zV}, zLr r as bs → zLr r as.reverse bs.reverse
  | [], [], _ => trivial
  | a :: as, b :: bs, g => by
    rw [List.reverse_cons, List.reverse_cons]
    exact zLr.app (zLr.rev g.2) ⟨g.1, trivial⟩
theorem zLr.rep : ∀ n : Nat, zLr r (List.replicate n vu) (List.replicate n vu)
  | 0 => trivial
  | n + 1 => ⟨trivial, zLr.rep n⟩
theorem zLr.mask : ∀ (m : List Bool) {as bs : List zV}, zLr r as bs → zLr r (zmask m as) (zmask m bs)
  | [], [], [], _ => trivial
  | [], _ :: _, _ :: _, g => g
  | _ :: _, [], [], _ => trivial
  | true :: m, _ :: _, _ :: _, g => ⟨g.1, zLr.mask m g.2⟩
  | false :: m, _ :: _, _ :: _, g => ⟨trivial, zLr.mask m g.2⟩
theorem zLr.cat : ∀ {as bs : List zV}, zLr r as bs → zcat as = zcat bs
  | [], [], _ => rfl
  | .inl _ :: _, .inl _ :: _, g => congrArg (1 + ·) (zLr.cat g.2)
  | .inr (.inl _) :: _, .inr (.inl _) :: _, g => congrArg (2 + ·) (zLr.cat g.2)
  | .inr (.inr (.inl _)) :: _, .inr (.inr (.inl _)) :: _, g => congrArg (1 + ·) (zLr.cat g.2)
  | .inr (.inr (.inr _)) :: _, .inr (.inr (.inr _)) :: _, g => congrArg (1 + ·) (zLr.cat g.2)
theorem zLr.args : ∀ {as bs : List zV}, zLr r as bs → zLr r (zargs as) (zargs bs)
  | [], [], _ => trivial
  | .inl _ :: _, .inl _ :: _, g => ⟨g.1, zLr.args g.2⟩
  | .inr (.inl _) :: _, .inr (.inl _) :: _, g => ⟨g.1, trivial, zLr.args g.2⟩
  | .inr (.inr (.inl _)) :: _, .inr (.inr (.inl _)) :: _, g => ⟨g.1, zLr.args g.2⟩
  | .inr (.inr (.inr _)) :: _, .inr (.inr (.inr _)) :: _, g => ⟨g.1, zLr.args g.2⟩
theorem zLr.clr {as bs : List zV} (i : Nat) (g : zLr r as bs) : zLr r (zclr i as) (zclr i bs) := by
  cases i with
  | zero => exact g
  | succ i =>
    show zLr r (match as[i]? with | some (.inr (.inl _)) => as.set i vu | _ => as) (match bs[i]? with | some (.inr (.inl _)) => bs.set i vu | _ => bs)
    cases h : as[i]? with
    | none =>
      have : bs[i]? = none := by
        rw [List.getElem?_eq_none_iff] at h ⊢
        rw [← g.len]; exact h
      rw [this]
      exact g
    | some v =>
      obtain ⟨w, h1, h2⟩ := g.get i h
      rw [h1]
      rcases v with v | v | v | v <;> rcases w with w | w | w | w <;> try exact absurd h2 id
      · exact g
      · exact g.set i trivial
      · exact g
      · exact g
theorem zLr.st1 {as bs : List zV} {v w : zV} (i : Nat) (g : zLr r as bs) (h : zVr r v w) : zLr r (zst1 i v as) (zst1 i w bs) := (g.clr i).set i h
theorem zLr.st2 {as bs : List zV} {v w : zV} (i : Nat) (g : zLr r as bs) (h : zVr r v w) : zLr r (zst2 i v as) (zst2 i w bs) := ((g.clr i).set i h).set (i + 1) trivial
/-! The pieces of a step. -/
theorem zPR.chk {c c' : Prop} [Decidable c] [Decidable c'] {R R' : zR} (h : c → c') (g : c → zPR t r S S' R R') : zPR t r S S' (zchk c R) (zchk c' R') := fun q e => by
  obtain ⟨h1, h2⟩ := zchk_inv e
  rw [zchk_pos (h h1)]
  exact g h1 q h2
theorem zPR.bif {c c' : Bool} {R R' : zR} (h : c = c') (g : zPR t r S S' R R') : zPR t r S S' (bif c then R else none) (bif c' then R' else none) := by
  subst h
  cases c
  · exact zPR.no
  · exact g
theorem zPR.cond {c : Jvm.ClassFile.Cond} {a b : Int} {x x' y y' : zR} (h : zPR t r S S' x x') (g : zPR t r S S' y y') : zPR t r S S' (zif c a b x y) (zif c a b x' y') := by
  unfold zif
  cases c <;> simp only <;> split <;> assumption
theorem zPR.ldi {i : Nat} {ls ls' st st' : List zV} {k k' : List zV → zR} (hl : zLr r ls ls') (hs : zLr r st st') (h : ∀ s s', zLr r s s' → zPR t r S S' (k s) (k' s')) : zPR t r S S' (zldi i ls st S k) (zldi i ls' st' S' k') := fun q e => by
  obtain ⟨v, e1, e2⟩ := zld_inv e
  obtain ⟨w, e3, e4⟩ := hl.get i e1
  rcases w with w | w | w | w <;> try exact absurd e4 id
  simp only [zldi, e3]
  exact h (vi v :: st) (vi w :: st') ⟨e4, hs⟩ q e2
theorem zPR.ldl {i : Nat} {ls ls' st st' : List zV} {k k' : List zV → zR} (hl : zLr r ls ls') (hs : zLr r st st') (h : ∀ s s', zLr r s s' → zPR t r S S' (k s) (k' s')) : zPR t r S S' (zldl i ls st S k) (zldl i ls' st' S' k') := fun q e => by
  obtain ⟨v, e1, e2⟩ := zldl_inv e
  obtain ⟨w, e3, e4⟩ := hl.get i e1
  rcases w with w | w | w | w <;> try exact absurd e4 id
  simp only [zldl, e3]
  exact h (vl v :: st) (vl w :: st') ⟨e4, hs⟩ q e2
theorem zPR.lda {i : Nat} {ls ls' st st' : List zV} {k k' : List zV → zR} (hl : zLr r ls ls') (hs : zLr r st st') (h : ∀ s s', zLr r s s' → zPR t r S S' (k s) (k' s')) : zPR t r S S' (zlda i ls st S k) (zlda i ls' st' S' k') := fun q e => by
  obtain ⟨v, e1, e2⟩ := zlda_inv e
  obtain ⟨w, e3, e4⟩ := hl.get i e1
  rcases w with w | w | w | w <;> try exact absurd e4 id
  simp only [zlda, e3]
  exact h (vr v :: st) (vr w :: st') ⟨e4, hs⟩ q e2
theorem zLr.i {a : Int} {l m : List zV} (h : zLr r (vi a :: l) m) : ∃ m', m = vi a :: m' ∧ zLr r l m' := by
  match m, h with
  | .inl b :: m', h => exact ⟨m', by rw [show a = b from h.1], h.2⟩
theorem zLr.l {a : Int} {l m : List zV} (h : zLr r (vl a :: l) m) : ∃ m', m = vl a :: m' ∧ zLr r l m' := by
  match m, h with
  | .inr (.inl b) :: m', h => exact ⟨m', by rw [show a = b from h.1], h.2⟩
theorem zLr.a {a : Int} {l m : List zV} (h : zLr r (vr a :: l) m) : ∃ b m', m = vr b :: m' ∧ r a b ∧ zLr r l m' := by
  match m, h with
  | .inr (.inr (.inl b)) :: m', h => exact ⟨b, m', rfl, h.1, h.2⟩
theorem zLr.u {a : Unit} {l m : List zV} (h : zLr r (.inr (.inr (.inr a)) :: l) m) : ∃ m', m = .inr (.inr (.inr a)) :: m' ∧ zLr r l m' := by
  match m, h with
  | .inr (.inr (.inr b)) :: m', h => exact ⟨m', rfl, h.2⟩
theorem zLr.n {m : List zV} (h : zLr r [] m) : m = [] := by
  match m, h with
  | [], _ => rfl
theorem zPR.ii {st st' : List zV} {f : Int → Int → Int} {k k' : List zV → zR} (hs : zLr r st st') (h : ∀ s s', zLr r s s' → zPR t r S S' (k s) (k' s')) : zPR t r S S' (zii st f k) (zii st' f k') := fun q e => by
  obtain ⟨a, b, l, rfl, e⟩ := zii_inv e
  obtain ⟨m, rfl, hs1⟩ := hs.i
  obtain ⟨m, rfl, hs2⟩ := hs1.i
  exact h (vi (f a b) :: l) (vi (f a b) :: m) ⟨rfl, hs2⟩ q e
theorem zPR.ll {st st' : List zV} {f : Int → Int → Int} {k k' : List zV → zR} (hs : zLr r st st') (h : ∀ s s', zLr r s s' → zPR t r S S' (k s) (k' s')) : zPR t r S S' (zll st f k) (zll st' f k') := fun q e => by
  obtain ⟨a, b, l, rfl, e⟩ := zll_inv e
  obtain ⟨m, rfl, hs1⟩ := hs.l
  obtain ⟨m, rfl, hs2⟩ := hs1.l
  exact h (vl (f a b) :: l) (vl (f a b) :: m) ⟨rfl, hs2⟩ q e
theorem zPR.li {st st' : List zV} {f : Int → Int → Int} {k k' : List zV → zR} (hs : zLr r st st') (h : ∀ s s', zLr r s s' → zPR t r S S' (k s) (k' s')) : zPR t r S S' (zli st f k) (zli st' f k') := fun q e => by
  obtain ⟨a, b, l, rfl, e⟩ := zli_inv e
  obtain ⟨m, rfl, hs1⟩ := hs.i
  obtain ⟨m, rfl, hs2⟩ := hs1.l
  exact h (vl (f a b) :: l) (vl (f a b) :: m) ⟨rfl, hs2⟩ q e
theorem zPR.one {st st' : List zV} {f : Int → zV} {k k' : List zV → zR} (hf : ∀ a, zVr r (f a) (f a)) (hs : zLr r st st') (h : ∀ s s', zLr r s s' → zPR t r S S' (k s) (k' s')) : zPR t r S S' (zone st f k) (zone st' f k') := fun q e => by
  obtain ⟨a, l, rfl, e⟩ := zone_inv e
  obtain ⟨m, rfl, hs1⟩ := hs.i
  exact h (f a :: l) (f a :: m) ⟨hf a, hs1⟩ q e
theorem zPR.oneL {st st' : List zV} {f : Int → zV} {k k' : List zV → zR} (hf : ∀ a, zVr r (f a) (f a)) (hs : zLr r st st') (h : ∀ s s', zLr r s s' → zPR t r S S' (k s) (k' s')) : zPR t r S S' (zoneL st f k) (zoneL st' f k') := fun q e => by
  obtain ⟨a, l, rfl, e⟩ := zoneL_inv e
  obtain ⟨m, rfl, hs1⟩ := hs.l
  exact h (f a :: l) (f a :: m) ⟨hf a, hs1⟩ q e
theorem zPR.sti {i : Nat} {ls ls' st st' : List zV} {k k' : List zV → List zV → zR} (hl : zLr r ls ls') (hs : zLr r st st') (h : ∀ l l' s s', zLr r l l' → zLr r s s' → zPR t r S S' (k l s) (k' l' s')) : zPR t r S S' (zsti i ls st k) (zsti i ls' st' k') := fun q e => by
  obtain ⟨v, l, rfl, e⟩ := zsti_inv e
  obtain ⟨m, rfl, hs1⟩ := hs.i
  exact h _ _ l m (hl.st1 i (show zVr r (vi v) (vi v) from rfl)) hs1 q e
theorem zPR.stl {i : Nat} {ls ls' st st' : List zV} {k k' : List zV → List zV → zR} (hl : zLr r ls ls') (hs : zLr r st st') (h : ∀ l l' s s', zLr r l l' → zLr r s s' → zPR t r S S' (k l s) (k' l' s')) : zPR t r S S' (zstl i ls st k) (zstl i ls' st' k') := fun q e => by
  obtain ⟨v, l, rfl, e⟩ := zstl_inv e
  obtain ⟨m, rfl, hs1⟩ := hs.l
  exact h _ _ l m (hl.st2 i (show zVr r (vl v) (vl v) from rfl)) hs1 q e
theorem zPR.sta {i : Nat} {ls ls' st st' : List zV} {k k' : List zV → List zV → zR} (hl : zLr r ls ls') (hs : zLr r st st') (h : ∀ l l' s s', zLr r l l' → zLr r s s' → zPR t r S S' (k l s) (k' l' s')) : zPR t r S S' (zsta i ls st k) (zsta i ls' st' k') := fun q e => by
  obtain ⟨v, l, rfl, e⟩ := zsta_inv e
  rcases v with v | v
  · obtain ⟨b, m, rfl, hb, hs1⟩ := hs.a
    exact h _ _ l m (hl.st1 i (show zVr r (vr v) (vr b) from hb)) hs1 q e
  · obtain ⟨m, rfl, hs1⟩ := hs.u
    exact h _ _ l m (hl.st1 i (show zVr r vu vu from trivial)) hs1 q e
theorem zbeq_n {g n : Nat} (h : g ≠ n) : Nat.beq g n = false := by
  cases e : Nat.beq g n
  · rfl
  · exact absurd (Nat.eq_of_beq_eq_true e) h
theorem zVr_tag {g : Nat} {x y : Int} (h : (g = 5 → r x y) ∧ (g ≠ 5 → x = y)) : zVr r (ztag g x) (ztag g y) := by
  unfold ztag
  split
  · exact h.2 (by decide)
  · exact h.1 rfl
  · next q1 q2 => exact h.2 q2
theorem zPR.ald {u v g : Nat} {st st' : List zV} {k k' : List zV → zR} (hR : zRg t r S S') (hg : ∀ x j, (x = u ∨ x = v) → t x j = some (Nat.beq g 5)) (hs : zLr r st st') (h : ∀ s s', zLr r s s' → zPR t r S S' (k s) (k' s')) : zPR t r S S' (zald u v g st S k) (zald u v g st' S' k') := fun q e => by
  obtain ⟨j, a, l, rfl, h1, h2, h3, e⟩ := zald_inv e
  obtain ⟨m, rfl, hs1⟩ := hs.i
  obtain ⟨b, m, rfl, hb, hs2⟩ := hs1.a
  obtain ⟨-, ek, em⟩ := hR.2.2 a b hb
  simp only [zald]
  rw [zchk_pos (by rw [← ek]; exact ⟨h1, h2, h3⟩)]
  refine h (ztag g (zm S a j) :: l) (ztag g (zm S' b j) :: m) ⟨zVr_tag ⟨fun q => (em j).1 ?_, fun q => (em j).2 ?_⟩, hs2⟩ q e
  · rw [hg _ j h1, q]; rfl
  · rw [hg _ j h1, zbeq_n q]
/-- what is written into places that are alike -/
theorem zXt.put (hR : zRg t r S S') {a b : Int} (hb : r a b) (h40 : ¬ ((zk S a).1 = 40 ∨ (zk S a).1 = 99)) {j v w : Int} (hj0 : 0 ≤ j) (hv : (t (zk S a).1 j = some true → r v w) ∧ (t (zk S a).1 j = some false → v = w)) : zXt t r r S S' (zput S a j v) (zput S' b j w) := by
  obtain ⟨⟨r0, r1, r2, r3⟩, hn, hm⟩ := hR
  have ek := (hm a b hb).2.1
  have p1 : ∀ x : Int, x ≠ a → zm (zput S a j v) x = zm S x := fun x hx => funext fun i => if_neg hx
  have p2 : ∀ y : Int, y ≠ b → zm (zput S' b j w) y = zm S' y := fun y hy => funext fun i => if_neg hy
  refine ⟨⟨⟨r0, r1, r2, r3⟩, hn, fun x y hx => ⟨(hm x y hx).1, (hm x y hx).2.1, fun i => ?_⟩⟩, fun _ _ g => g, fun _ _ g => Or.inl g, ⟨Nat.add_comm _ _, Nat.add_comm _ _, Nat.add_comm _ _⟩, ⟨zmono_put .., zmono_put ..⟩, fun x hx hxb => p1 x fun q => hxb b (by rw [q]; exact hb), fun y hy hya => p2 y fun q => hya a (by rw [q]; exact hb), ⟨fun x hx q40 => p1 x fun q => h40 (by rw [← q]; exact q40), fun y hy q40 => p2 y fun q => h40 (by rw [ek, ← q]; exact q40)⟩, fun x i hx hi => ?_, fun y i hy hi => ?_⟩
  · have eS : zm (zput S a j v) x i = if x = a then (if i = j then v else zm S x i) else zm S x i := rfl
    have eS' : zm (zput S' b j w) y i = if y = b then (if i = j then w else zm S' y i) else zm S' y i := rfl
    rw [show zk (zput S a j v) x = zk S x from rfl, eS, eS']
    by_cases c : x = a
    · have c' : y = b := r1 a y b (c ▸ hx) hb
      rw [if_pos c, if_pos c']
      by_cases d : i = j
      · rw [if_pos d, if_pos d, c, d]
        exact hv
      · rw [if_neg d, if_neg d]
        exact (hm x y hx).2.2 i
    · have c' : y ≠ b := fun q => c (r2 x a b (q ▸ hx) hb)
      rw [if_neg c, if_neg c']
      exact (hm x y hx).2.2 i
  · show (if x = a then (if i = j then v else zm S x i) else zm S x i) = zm S x i
    by_cases c : x = a
    · rw [if_pos c, if_neg (by omega)]
    · rw [if_neg c]
  · show (if y = b then (if i = j then w else zm S' y i) else zm S' y i) = zm S' y i
    by_cases c : y = b
    · rw [if_pos c, if_neg (by omega)]
    · rw [if_neg c]
/-- a new object on both sides -/
theorem zXt.alloc (hR : zRg t r S S') (u : Nat) (len : Int) (w : Nat) : ∃ r1, zXt t r r1 S S' (zalloc S u len w) (zalloc S' u len w) ∧ r1 (zn S) (zn S') := by
  obtain ⟨⟨r0, r1, r2, r3⟩, hn, hm⟩ := hR
  have lt : ∀ a b, r a b → a < zn S ∧ b < zn S' := fun a b h => (hm a b h).1
  refine ⟨fun a b => r a b ∨ (a = zn S ∧ b = zn S'), ⟨⟨⟨⟨Or.inl r0.1, Or.inl r0.2⟩, ?_, ?_, ?_⟩, ⟨by show 3 ≤ zn S + 1; omega, by show 3 ≤ zn S' + 1; omega⟩, fun a b h => ?_⟩, fun a b h => Or.inl h, fun a b h => ?_, ⟨by show (zn S + 1) + zn S' = (zn S' + 1) + zn S; omega, by show (zc S + 1) + zc S' = (zc S' + 1) + zc S; omega, by show (zw S + w) + zw S' = (zw S' + w) + zw S; omega⟩, ⟨zmono_alloc .., zmono_alloc ..⟩, ?_, ?_, ⟨?_, ?_⟩, fun a j ha hj => ?_, fun a j ha hj => ?_⟩, Or.inr ⟨rfl, rfl⟩⟩
  · rintro a b c (h | h) (g | g)
    · exact r1 a b c h g
    · have := lt a b h; omega
    · have := lt a c g; omega
    · omega
  · rintro a b c (h | h) (g | g)
    · exact r2 a b c h g
    · have := lt a c h; omega
    · have := lt b c g; omega
    · omega
  · rintro a b (h | h)
    · exact r3 a b h
    · right; omega
  · have e1 : ∀ x : Int, x ≠ zn S → zk (zalloc S u len w) x = zk S x := fun x hx => if_neg hx
    have e2 : ∀ x : Int, x ≠ zn S' → zk (zalloc S' u len w) x = zk S' x := fun x hx => if_neg hx
    have f1 : ∀ x : Int, x ≠ zn S → zm (zalloc S u len w) x = zm S x := fun x hx => funext fun i => if_neg hx
    have f2 : ∀ x : Int, x ≠ zn S' → zm (zalloc S' u len w) x = zm S' x := fun x hx => funext fun i => if_neg hx
    rcases h with h | ⟨rfl, rfl⟩
    · obtain ⟨⟨l1, l2⟩, g1, g2⟩ := hm a b h
      refine ⟨⟨by show a < ((zn S + 1 : Nat) : Int); omega, by show b < ((zn S' + 1 : Nat) : Int); omega⟩, ?_, fun j => ?_⟩
      · rw [e1 a (by omega), e2 b (by omega), g1]
      · rw [e1 a (by omega), f1 a (by omega), f2 b (by omega)]
        exact ⟨fun q => Or.inl ((g2 j).1 q), (g2 j).2⟩
    · refine ⟨⟨by show (zn S : Int) < ((zn S + 1 : Nat) : Int); omega, by show (zn S' : Int) < ((zn S' + 1 : Nat) : Int); omega⟩, ?_, fun j => ?_⟩
      · exact (show zk (zalloc S u len w) (zn S) = (u, len) from if_pos rfl).trans (show zk (zalloc S' u len w) (zn S') = (u, len) from if_pos rfl).symm
      · rw [show zm (zalloc S u len w) (zn S) j = 0 from if_pos rfl, show zm (zalloc S' u len w) (zn S') j = 0 from if_pos rfl]
        exact ⟨fun _ => Or.inl r0.1, fun _ => rfl⟩
  · rcases h with h | h
    · exact Or.inl h
    · right; omega
  · exact fun a ha hb => funext fun i => if_neg (by unfold zn at ha; omega)
  · exact fun a ha hb => funext fun i => if_neg (by unfold zn at ha; omega)
  · exact fun a ha hb => funext fun i => if_neg (by unfold zn at ha; omega)
  · exact fun a ha hb => funext fun i => if_neg (by unfold zn at ha; omega)
  · exact if_neg (by unfold zn at ha; omega)
  · exact if_neg (by unfold zn at ha; omega)
/-- new rows on both sides -/
theorem zXt.multi (hR : zRg t r S S') (u v n k : Nat) (hu : ∀ j, t u j = some true) : ∃ r1, zXt t r r1 S S' (zmulti S u v n k) (zmulti S' u v n k) ∧ r1 (zn S) (zn S') := by
  obtain ⟨⟨r0, r1, r2, r3⟩, hn, hm⟩ := hR
  have lt : ∀ a b, r a b → a < zn S ∧ b < zn S' := fun a b h => (hm a b h).1
  refine ⟨fun a b => r a b ∨ ∃ i : Nat, i ≤ n ∧ a = (zn S : Int) + i ∧ b = (zn S' : Int) + i, ⟨⟨⟨⟨Or.inl r0.1, Or.inl r0.2⟩, ?_, ?_, ?_⟩, ⟨by show 3 ≤ zn S + 1 + n; omega, by show 3 ≤ zn S' + 1 + n; omega⟩, fun a b h => ?_⟩, fun a b h => Or.inl h, fun a b h => ?_, ⟨by show (zn S + 1 + n) + zn S' = (zn S' + 1 + n) + zn S; omega, by show (zc S + 1 + n) + zc S' = (zc S' + 1 + n) + zc S; omega, by show (zw S + n + n * k) + zw S' = (zw S' + n + n * k) + zw S; omega⟩, ⟨zmono_multi .., zmono_multi ..⟩, ?_, ?_, ⟨?_, ?_⟩, fun a j ha hj => ?_, fun a j ha hj => ?_⟩, Or.inr ⟨0, Nat.zero_le _, by omega, by omega⟩⟩
  · rintro a b c (h | ⟨i, i1, i2, i3⟩) (g | ⟨j, j1, j2, j3⟩)
    · exact r1 a b c h g
    · have := lt a b h; omega
    · have := lt a c g; omega
    · omega
  · rintro a b c (h | ⟨i, i1, i2, i3⟩) (g | ⟨j, j1, j2, j3⟩)
    · exact r2 a b c h g
    · have := lt a c h; omega
    · have := lt b c g; omega
    · omega
  · rintro a b (h | ⟨i, i1, i2, i3⟩)
    · exact r3 a b h
    · right; omega
  · have e1 : ∀ x : Int, zk (zmulti S u v n k) x = if x = (zn S : Int) then (u, (n : Int)) else if (zn S : Int) < x ∧ x ≤ (zn S : Int) + n then (v, (k : Int)) else zk S x := fun x => rfl
    have e2 : ∀ x : Int, zk (zmulti S' u v n k) x = if x = (zn S' : Int) then (u, (n : Int)) else if (zn S' : Int) < x ∧ x ≤ (zn S' : Int) + n then (v, (k : Int)) else zk S' x := fun x => rfl
    have f1 : ∀ x j : Int, zm (zmulti S u v n k) x j = if x = (zn S : Int) then (if 0 ≤ j ∧ j < n then (zn S : Int) + 1 + j else 0) else if (zn S : Int) < x ∧ x ≤ (zn S : Int) + n then 0 else zm S x j := fun x j => rfl
    have f2 : ∀ x j : Int, zm (zmulti S' u v n k) x j = if x = (zn S' : Int) then (if 0 ≤ j ∧ j < n then (zn S' : Int) + 1 + j else 0) else if (zn S' : Int) < x ∧ x ≤ (zn S' : Int) + n then 0 else zm S' x j := fun x j => rfl
    have g1 : (zn (zmulti S u v n k) : Int) = zn S + 1 + n := by show ((zn S + 1 + n : Nat) : Int) = _; omega
    have g2 : (zn (zmulti S' u v n k) : Int) = zn S' + 1 + n := by show ((zn S' + 1 + n : Nat) : Int) = _; omega
    rw [g1, g2, e1, e2]
    rcases h with h | ⟨i, i1, i2, i3⟩
    · obtain ⟨⟨l1, l2⟩, q1, q2⟩ := hm a b h
      rw [if_neg (show ¬ a = (zn S : Int) by omega), if_neg (show ¬ ((zn S : Int) < a ∧ a ≤ (zn S : Int) + n) by omega), if_neg (show ¬ b = (zn S' : Int) by omega), if_neg (show ¬ ((zn S' : Int) < b ∧ b ≤ (zn S' : Int) + n) by omega)]
      refine ⟨⟨by omega, by omega⟩, q1, fun j => ?_⟩
      rw [f1, f2, if_neg (show ¬ a = (zn S : Int) by omega), if_neg (show ¬ ((zn S : Int) < a ∧ a ≤ (zn S : Int) + n) by omega), if_neg (show ¬ b = (zn S' : Int) by omega), if_neg (show ¬ ((zn S' : Int) < b ∧ b ≤ (zn S' : Int) + n) by omega)]
      exact ⟨fun q => Or.inl ((q2 j).1 q), (q2 j).2⟩
    · by_cases c : i = 0
      · rw [if_pos (show a = (zn S : Int) by omega), if_pos (show b = (zn S' : Int) by omega)]
        refine ⟨⟨by omega, by omega⟩, rfl, fun j => ?_⟩
        rw [f1, f2, if_pos (show a = (zn S : Int) by omega), if_pos (show b = (zn S' : Int) by omega)]
        refine ⟨fun _ => ?_, fun q => absurd (hu j) (by rw [show t u j = some false from q]; decide)⟩
        by_cases hj : 0 ≤ j ∧ j < n
        · rw [if_pos hj, if_pos hj]
          exact Or.inr ⟨j.toNat + 1, by omega, by omega, by omega⟩
        · rw [if_neg hj, if_neg hj]
          exact Or.inl r0.1
      · rw [if_neg (show ¬ a = (zn S : Int) by omega), if_pos (show (zn S : Int) < a ∧ a ≤ (zn S : Int) + n by omega), if_neg (show ¬ b = (zn S' : Int) by omega), if_pos (show (zn S' : Int) < b ∧ b ≤ (zn S' : Int) + n by omega)]
        refine ⟨⟨by omega, by omega⟩, rfl, fun j => ?_⟩
        rw [f1, f2, if_neg (show ¬ a = (zn S : Int) by omega), if_pos (show (zn S : Int) < a ∧ a ≤ (zn S : Int) + n by omega), if_neg (show ¬ b = (zn S' : Int) by omega), if_pos (show (zn S' : Int) < b ∧ b ≤ (zn S' : Int) + n by omega)]
        exact ⟨fun _ => Or.inl r0.1, fun _ => rfl⟩
  · rcases h with h | h
    · exact Or.inl h
    · right; omega
  · exact fun a ha hb => funext fun i => (if_neg (by unfold zn at ha; omega)).trans (if_neg (by unfold zn at ha; omega))
  · exact fun a ha hb => funext fun i => (if_neg (by unfold zn at ha; omega)).trans (if_neg (by unfold zn at ha; omega))
  · exact fun a ha hb => funext fun i => (if_neg (by unfold zn at ha; omega)).trans (if_neg (by unfold zn at ha; omega))
  · exact fun a ha hb => funext fun i => (if_neg (by unfold zn at ha; omega)).trans (if_neg (by unfold zn at ha; omega))
  · exact (if_neg (by unfold zn at ha; omega)).trans (if_neg (by unfold zn at ha; omega))
  · exact (if_neg (by unfold zn at ha; omega)).trans (if_neg (by unfold zn at ha; omega))
theorem zPR.call {R R' : zR} {f f' : Option zV → zS → zR} {g g' : Nat → zS → zR} (h : zPR t r S S' R R')
    (hf : ∀ v v' r1 S1 S1', zXt t r r1 S S' S1 S1' → zOr r1 (.inl v) (.inl v') → zPR t r1 S1 S1' (f v S1) (f' v' S1')) (hg : ∀ e r1 S1 S1', zXt t r r1 S S' S1 S1' → zPR t r1 S1 S1' (g e S1) (g' e S1')) : zPR t r S S' (zcall R f g) (zcall R' f' g') := fun q e => by
  rcases zcall_inv e with ⟨v, S1, e1, e2⟩ | ⟨x, S1, e1, e2⟩
  · obtain ⟨⟨o, S1'⟩, r1, h1, h2, h3⟩ := h _ e1
    rcases o with v' | x'
    · rw [h1]
      exact (hf v v' r1 S1 S1' h2 h3).go h2 q e2
    · cases v <;> exact absurd h3 id
  · obtain ⟨⟨o, S1'⟩, r1, h1, h2, h3⟩ := h _ e1
    rcases o with v' | x'
    · cases v' <;> exact absurd h3 id
    · rw [h1, ← show x = x' from h3]
      exact (hg x r1 S1 S1' h2).go h2 q e2
theorem zPR.retn {R R' : zR} {f f' : Option zV → zS → zR} (h : zPR t r S S' R R')
    (hf : ∀ v v' r1 S1 S1', zXt t r r1 S S' S1 S1' → zOr r1 (.inl v) (.inl v') → zPR t r1 S1 S1' (f v S1) (f' v' S1')) : zPR t r S S' (zretn f R) (zretn f' R') := fun q e => by
  obtain ⟨v, S1, e1, e2⟩ := zretn_inv e
  obtain ⟨⟨o, S1'⟩, r1, h1, h2, h3⟩ := h _ e1
  rcases o with v' | x'
  · rw [h1]
    exact (hf v v' r1 S1 S1' h2 h3).go h2 q e2
  · cases v <;> exact absurd h3 id
theorem zPR.thr {hs : List (Nat × Nat × Nat × Nat)} {pc e : Nat} {ls ls' : List zV} {k k' : zC} (hR : zRg t r S S') (h : ∀ p, zPR t r S S' (k p ls [vu] S) (k' p ls' [vu] S')) : zPR t r S S' (zthr hs pc ls k e S) (zthr hs pc ls' k' e S') := by
  cases hs with
  | nil => exact zPR.ret hR rfl
  | cons q qs =>
    simp only [zthr]
    split
    · exact zPR.no
    · exact h _
theorem zLr.push {v v' : Option zV} {s s' : List zV} (h : zOr r (.inl v) (.inl v')) (g : zLr r s s') : zLr r (zpush v s) (zpush v' s') := by
  cases v <;> cases v'
  · exact g
  · exact absurd h id
  · exact absurd h id
  · exact ⟨h, g⟩
theorem zPR.void {v v' : Option zV} {R R' : zR} (h : zOr r (.inl v) (.inl v')) (g : zPR t r S S' R R') : zPR t r S S' (zvoid v R) (zvoid v' R') := by
  cases v <;> cases v'
  · exact g
  · exact absurd h id
  · exact zPR.no
  · exact zPR.no
theorem zPR.mm {st st' : List zV} {f : Int → Int → Int} {k k' : List zV → zR} (hs : zLr r st st') (h : ∀ s s', zLr r s s' → zPR t r S S' (k s) (k' s')) : zPR t r S S' (zmm st f k) (zmm st' f k') := fun q e => by
  obtain ⟨a, b, l, rfl, hc, e⟩ := zmm_inv e
  obtain ⟨m, rfl, hs1⟩ := hs.i
  obtain ⟨m, rfl, hs2⟩ := hs1.i
  simp only [zmm, ← hs2.cat, Nat.ble_eq_true_of_le hc]
  exact h (vi (f a b) :: l) (vi (f a b) :: m) ⟨rfl, hs2⟩ q e
theorem zPR.ml {st st' : List zV} {f : Int → Int → Int} {k k' : List zV → zR} (hs : zLr r st st') (h : ∀ s s', zLr r s s' → zPR t r S S' (k s) (k' s')) : zPR t r S S' (zml st f k) (zml st' f k') := fun q e => by
  obtain ⟨a, b, l, rfl, hc, e⟩ := zml_inv e
  obtain ⟨m, rfl, hs1⟩ := hs.l
  obtain ⟨m, rfl, hs2⟩ := hs1.l
  simp only [zml, ← hs2.cat, Nat.ble_eq_true_of_le hc]
  exact h (vl (f a b) :: l) (vl (f a b) :: m) ⟨rfl, hs2⟩ q e
theorem zPR.rng {u : Nat} {z : Int} {R R' : zR} (h : zPR t r S S' R R') : zPR t r S S' (zrng u z R) (zrng u z R') := by
  unfold zrng
  split
  · exact zPR.chk id fun _ => h
  · exact zPR.chk id fun _ => h
  · exact zPR.chk id fun _ => h
  · exact h
theorem zPR.putf {g : Nat} {v v' : zV} {f f' : Int → zR} (hv : zVr r v v') (h : ∀ z z', (g = 5 → r z z') → (g ≠ 5 → z = z') → zPR t r S S' (f z) (f' z')) : zPR t r S S' (zputf g v f) (zputf g v' f') := by
  rcases v with v | v | v | v <;> rcases v' with w | w | w | w <;> try exact absurd hv id
  · have e : v = w := hv
    subst e
    have := fun hg : g ≠ 5 => h v v (fun q => absurd q hg) fun _ => rfl
    simp only [zputf]
    split
    · exact this (by decide)
    · exact zPR.chk id fun _ => this (by decide)
    · exact zPR.chk id fun _ => this (by decide)
    · exact zPR.chk id fun _ => this (by decide)
    · exact zPR.no
  · have e : v = w := hv
    subst e
    simp only [zputf]
    split
    · exact h v v (fun q => absurd q (by decide)) fun _ => rfl
    · exact zPR.no
  · simp only [zputf]
    split
    · exact h v w (fun _ => hv) fun q => absurd rfl q
    · exact zPR.no
  · exact zPR.no
end
