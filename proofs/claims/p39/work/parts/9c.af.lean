/-! Methods that make no objects, and those that write nothing. -/
def zAf (wr : Bool) (S : zS) (R : zR) : Prop := ∀ q, R = some q → ∃ m, (wr = false → m = zm S) ∧ ((∃ v, q = (.inl v, qW S m)) ∨ ∃ e, q = (.inr e, zbump (qW S m)))
def zsaf (wr : Bool) (C : Nat → Bool) (ins : Instr) (a c : Nat) : Bool := match ins with
  | .iastore => wr
  | .lastore => wr
  | .castore => wr
  | .bastore => wr
  | .aastore => wr
  | .putfield _ => wr
  | .new _ => Nat.blt 0 c
  | .newarray _ => false
  | .anewarray _ => false
  | .multianewarray _ _ => false
  | .invokestatic _ => (match c with
    | 0 => C a
    | 1 => C a
    | _ => true)
  | .invokevirtual _ => C a
  | .invokespecial _ => (match c with
    | 0 => true
    | _ => C a)
  | _ => true
theorem zAf.tr {wr : Bool} {S : zS} {m : Int → Int → Int} {R : zR} (h : wr = false → m = zm S) (g : zAf wr (qW S m) R) : zAf wr S R := fun q e => by
  obtain ⟨m', h1, h2⟩ := g q e
  exact ⟨m', fun w => (h1 w).trans (h w), h2⟩
theorem zAf.ret {wr : Bool} {S : zS} {v : Option zV} : zAf wr S (some (.inl v, S)) := fun q e => by
  cases e
  exact ⟨zm S, fun _ => rfl, Or.inl ⟨v, rfl⟩⟩
set_option maxHeartbeats 4000000 in
theorem zaf_step {wr : Bool} {C : Nat → Bool} {K : Nat → List zV → zS → zR} (hK : ∀ y, C y = true → ∀ as S, zAf wr S (K y as S))
    {rt : Nat} {ins : Instr} {n a b c pc : Nat} (ok : zsaf wr C ins a c = true) {k : zC} {S : zS} {ls st : List zV}
    (hk : ∀ p l s m, (wr = false → m = zm S) → zAf wr (qW S m) (k p l s (qW S m))) : zAf wr S (zstep K [] rt ins n a b c pc ls st S k) := by
  have h0 : ∀ p l s, zAf wr S (k p l s S) := fun p l s => hk p l s (zm S) fun _ => rfl
  have hw : ∀ x j v p l s, wr = true → zAf wr S (k p l s (zput S x j v)) := fun x j v p l s w => (hk p l s (qu (zm S) x j v) (fun e => by rw [w] at e; cases e)).tr (fun e => by rw [w] at e; cases e)
  have hc : ∀ y as (f : Option zV → zS → zR), C y = true → (∀ v m, (wr = false → m = zm S) → zAf wr (qW S m) (f v (qW S m))) → ∀ (q : zO × zS), zcall (K y as S) f (fun e S => some (.inr e, S)) = some q → ∃ m, (wr = false → m = zm S) ∧ ((∃ v, q = (.inl v, qW S m)) ∨ ∃ e, q = (.inr e, zbump (qW S m))) := fun y as f hy hf q e => by
    rcases zcall_inv e with ⟨v, S1, e1, e2⟩ | ⟨x, S1, e1, e2⟩
    · obtain ⟨m, h1, ⟨v', h2⟩ | ⟨x, h2⟩⟩ := hK y hy as S _ e1
      · cases h2
        exact (hf v m h1).tr h1 q e2
      · cases h2
    · obtain ⟨m, h1, ⟨v', h2⟩ | ⟨x, h2⟩⟩ := hK y hy as S _ e1
      · cases h2
      · cases h2
        cases e2
        exact ⟨m, h1, Or.inr ⟨_, rfl⟩⟩
  have hr : ∀ y as (f : Option zV → zS → zR), C y = true → (∀ v m, (wr = false → m = zm S) → zAf wr (qW S m) (f v (qW S m))) → ∀ (q : zO × zS), zretn f (K y as S) = some q → ∃ m, (wr = false → m = zm S) ∧ ((∃ v, q = (.inl v, qW S m)) ∨ ∃ e, q = (.inr e, zbump (qW S m))) := fun y as f hy hf q e => by
    obtain ⟨v, S1, e1, e2⟩ := zretn_inv e
    obtain ⟨m, h1, ⟨v', h2⟩ | ⟨x, h2⟩⟩ := hK y hy as S _ e1
    · cases h2
      exact (hf v m h1).tr h1 q e2
    · cases h2
  have hif : ∀ (cd : Jvm.ClassFile.Cond) (x y : Int) p1 p2 l s, zAf wr S (zif cd x y (k p1 l s S) (k p2 l s S)) := fun cd x y p1 p2 l s => by
    unfold zif
    cases cd <;> simp only <;> split <;> exact h0 _ _ _
  intro q h
  cases ins with
  | iconst i => exact h0 _ _ _ q h
  | bipush i => exact h0 _ _ _ q h
  | sipush i => exact h0 _ _ _ q h
  | lconst i => exact h0 _ _ _ q h
  | ldc i => exact h0 _ _ _ q h
  | ldc_w i => exact h0 _ _ _ q h
  | ldc2_w i => exact h0 _ _ _ q h
  | aconst_null => exact h0 _ _ _ q h
  | getstatic i => exact h0 _ _ _ q h
  | goto o => exact h0 _ _ _ q h
  | iload_n i => simp only [zstep] at h; obtain ⟨v, e, h⟩ := zld_inv h; exact h0 _ _ _ q h
  | iload i => simp only [zstep] at h; obtain ⟨v, e, h⟩ := zld_inv h; exact h0 _ _ _ q h
  | lload_n i => simp only [zstep] at h; obtain ⟨v, e, h⟩ := zldl_inv h; exact h0 _ _ _ q h
  | lload i => simp only [zstep] at h; obtain ⟨v, e, h⟩ := zldl_inv h; exact h0 _ _ _ q h
  | aload_n i => simp only [zstep] at h; obtain ⟨v, e, h⟩ := zlda_inv h; exact h0 _ _ _ q h
  | aload i => simp only [zstep] at h; obtain ⟨v, e, h⟩ := zlda_inv h; exact h0 _ _ _ q h
  | istore_n i => simp only [zstep] at h; obtain ⟨v, l, e, h⟩ := zsti_inv h; exact h0 _ _ _ q h
  | istore i => simp only [zstep] at h; obtain ⟨v, l, e, h⟩ := zsti_inv h; exact h0 _ _ _ q h
  | lstore_n i => simp only [zstep] at h; obtain ⟨v, l, e, h⟩ := zstl_inv h; exact h0 _ _ _ q h
  | lstore i => simp only [zstep] at h; obtain ⟨v, l, e, h⟩ := zstl_inv h; exact h0 _ _ _ q h
  | astore_n i => simp only [zstep] at h; obtain ⟨v, l, e, h⟩ := zsta_inv h; exact h0 _ _ _ q h
  | astore i => simp only [zstep] at h; obtain ⟨v, l, e, h⟩ := zsta_inv h; exact h0 _ _ _ q h
  | iinc i d =>
    simp only [zstep] at h
    split at h
    · exact h0 _ _ _ q h
    · cases h
  | iadd => simp only [zstep] at h; obtain ⟨x, y, l, e, h⟩ := zii_inv h; exact h0 _ _ _ q h
  | isub => simp only [zstep] at h; obtain ⟨x, y, l, e, h⟩ := zii_inv h; exact h0 _ _ _ q h
  | imul => simp only [zstep] at h; obtain ⟨x, y, l, e, h⟩ := zii_inv h; exact h0 _ _ _ q h
  | iand => simp only [zstep] at h; obtain ⟨x, y, l, e, h⟩ := zii_inv h; exact h0 _ _ _ q h
  | ior => simp only [zstep] at h; obtain ⟨x, y, l, e, h⟩ := zii_inv h; exact h0 _ _ _ q h
  | ixor => simp only [zstep] at h; obtain ⟨x, y, l, e, h⟩ := zii_inv h; exact h0 _ _ _ q h
  | ishl => simp only [zstep] at h; obtain ⟨x, y, l, e, h⟩ := zii_inv h; exact h0 _ _ _ q h
  | ishr => simp only [zstep] at h; obtain ⟨x, y, l, e, h⟩ := zii_inv h; exact h0 _ _ _ q h
  | iushr => simp only [zstep] at h; obtain ⟨x, y, l, e, h⟩ := zii_inv h; exact h0 _ _ _ q h
  | ladd => simp only [zstep] at h; obtain ⟨x, y, l, e, h⟩ := zll_inv h; exact h0 _ _ _ q h
  | lsub => simp only [zstep] at h; obtain ⟨x, y, l, e, h⟩ := zll_inv h; exact h0 _ _ _ q h
  | lmul => simp only [zstep] at h; obtain ⟨x, y, l, e, h⟩ := zll_inv h; exact h0 _ _ _ q h
  | land => simp only [zstep] at h; obtain ⟨x, y, l, e, h⟩ := zll_inv h; exact h0 _ _ _ q h
  | lor => simp only [zstep] at h; obtain ⟨x, y, l, e, h⟩ := zll_inv h; exact h0 _ _ _ q h
  | lxor => simp only [zstep] at h; obtain ⟨x, y, l, e, h⟩ := zll_inv h; exact h0 _ _ _ q h
  | lshl => simp only [zstep] at h; obtain ⟨x, y, l, e, h⟩ := zli_inv h; exact h0 _ _ _ q h
  | lshr => simp only [zstep] at h; obtain ⟨x, y, l, e, h⟩ := zli_inv h; exact h0 _ _ _ q h
  | lushr => simp only [zstep] at h; obtain ⟨x, y, l, e, h⟩ := zli_inv h; exact h0 _ _ _ q h
  | i2l => simp only [zstep] at h; obtain ⟨x, l, e, h⟩ := zone_inv h; exact h0 _ _ _ q h
  | i2c => simp only [zstep] at h; obtain ⟨x, l, e, h⟩ := zone_inv h; exact h0 _ _ _ q h
  | i2b => simp only [zstep] at h; obtain ⟨x, l, e, h⟩ := zone_inv h; exact h0 _ _ _ q h
  | l2i => simp only [zstep] at h; obtain ⟨x, l, e, h⟩ := zoneL_inv h; exact h0 _ _ _ q h
  | idiv =>
    simp only [zstep] at h
    split at h
    · exact h0 _ _ _ q (zchk_inv h).2
    · cases h
  | irem =>
    simp only [zstep] at h
    split at h
    · exact h0 _ _ _ q (zchk_inv h).2
    · cases h
  | lcmp =>
    simp only [zstep] at h
    split at h
    · exact h0 _ _ _ q h
    · cases h
  | dup =>
    simp only [zstep] at h
    split at h
    · exact h0 _ _ _ q h
    · exact h0 _ _ _ q h
    · cases h
  | dup2 =>
    simp only [zstep] at h
    split at h
    · exact h0 _ _ _ q h
    · exact h0 _ _ _ q h
    · cases h
  | pop =>
    simp only [zstep] at h
    split at h
    · exact h0 _ _ _ q h
    · exact h0 _ _ _ q h
    · cases h
  | ifCond cd o =>
    simp only [zstep] at h
    split at h
    · exact hif _ _ _ _ _ _ _ q h
    · cases h
  | if_icmp cd o =>
    simp only [zstep] at h
    split at h
    · exact hif _ _ _ _ _ _ _ q h
    · cases h
  | ifnonnull o =>
    simp only [zstep] at h
    split at h
    · split at h <;> exact h0 _ _ _ q h
    · cases h
  | if_acmp cd o =>
    cases cd with
    | eq => cases h
    | ne =>
      simp only [zstep] at h
      split at h
      · obtain ⟨-, h⟩ := zchk_inv h
        split at h <;> exact h0 _ _ _ q h
      · cases h
  | tableswitch d lo hi o =>
    simp only [zstep] at h
    split at h
    · exact h0 _ _ _ q h
    · cases h
  | lookupswitch d ps =>
    simp only [zstep] at h
    split at h
    · exact h0 _ _ _ q h
    · cases h
  | iaload => simp only [zstep] at h; obtain ⟨j, x, l, e, h1, h2, h3, h⟩ := zald_inv h; exact h0 _ _ _ q h
  | laload => simp only [zstep] at h; obtain ⟨j, x, l, e, h1, h2, h3, h⟩ := zald_inv h; exact h0 _ _ _ q h
  | caload => simp only [zstep] at h; obtain ⟨j, x, l, e, h1, h2, h3, h⟩ := zald_inv h; exact h0 _ _ _ q h
  | baload => simp only [zstep] at h; obtain ⟨j, x, l, e, h1, h2, h3, h⟩ := zald_inv h; exact h0 _ _ _ q h
  | aaload => simp only [zstep] at h; obtain ⟨j, x, l, e, h1, h2, h3, h⟩ := zald_inv h; exact h0 _ _ _ q h
  | iastore =>
    simp only [zstep] at h
    split at h
    · exact hw _ _ _ _ _ _ ok q (zchk_inv h).2
    · cases h
  | lastore =>
    simp only [zstep] at h
    split at h
    · exact hw _ _ _ _ _ _ ok q (zchk_inv h).2
    · cases h
  | castore =>
    simp only [zstep] at h
    split at h
    · exact hw _ _ _ _ _ _ ok q (zchk_inv h).2
    · cases h
  | aastore =>
    simp only [zstep] at h
    split at h
    · exact hw _ _ _ _ _ _ ok q (zchk_inv h).2
    · cases h
  | bastore =>
    simp only [zstep] at h
    split at h
    · split at h <;> exact hw _ _ _ _ _ _ ok q (zchk_inv h).2
    · cases h
  | arraylength =>
    simp only [zstep] at h
    split at h
    · exact h0 _ _ _ q (zchk_inv h).2
    · cases h
  | getfield i =>
    simp only [zstep] at h
    split at h
    · exact h0 _ _ _ q (zchk_inv h).2
    · cases h
  | putfield i =>
    simp only [zstep] at h
    split at h
    · obtain ⟨z, -, h⟩ := zputf_inv (zchk_inv h).2
      exact hw _ _ _ _ _ _ ok q h
    · cases h
  | new i =>
    simp only [zsaf, Nat.blt_eq] at ok
    simp only [zstep] at h
    split at h
    · omega
    · obtain ⟨-, h⟩ := bif_inv h
      cases h
      exact ⟨zm S, fun _ => rfl, Or.inr ⟨_, rfl⟩⟩
  | newarray t => cases ok
  | anewarray i => cases ok
  | multianewarray i d => cases ok
  | invokestatic i =>
    simp only [zstep] at h
    split at h
    · obtain ⟨-, h⟩ := bif_inv h
      exact hc _ _ _ ok (fun v m e => by
        have := hk (pc + n) ls (zpush v (st.drop b)) m e
        exact this) q h
    · obtain ⟨-, h⟩ := bif_inv h
      exact hr _ _ _ ok (fun v m e => hk _ _ _ m e) q h
    · obtain ⟨x, y, l, e, -, h⟩ := zmm_inv h; exact h0 _ _ _ q h
    · obtain ⟨x, y, l, e, -, h⟩ := zmm_inv h; exact h0 _ _ _ q h
    · obtain ⟨x, y, l, e, -, h⟩ := zml_inv h; exact h0 _ _ _ q h
  | invokevirtual i =>
    simp only [zstep] at h
    split at h
    · obtain ⟨-, h⟩ := bif_inv h
      exact hc _ _ _ ok (fun v m e => hk _ _ _ m e) q (zchk_inv h).2
    · cases h
  | invokespecial i =>
    simp only [zstep] at h
    split at h
    · split at h
      · obtain ⟨-, h⟩ := bif_inv h
        exact h0 _ _ _ q (zchk_inv h).2
      · cases h
    · next c0 =>
      have ok : C a = true := by
        cases c with
        | zero => exact absurd rfl c0
        | succ c => exact ok
      split at h
      · obtain ⟨-, h⟩ := bif_inv h
        exact hr _ _ _ ok (fun v m e q2 h2 => by
          obtain ⟨rfl, h2⟩ := zvoid_inv h2
          exact hk _ _ _ m e q2 h2) q (zchk_inv h).2
      · cases h
  | ireturn =>
    simp only [zstep] at h
    split at h
    · obtain ⟨h, -⟩ := zrng_inv h
      exact zAf.ret q h
    · cases h
  | lreturn =>
    simp only [zstep] at h
    split at h
    · exact zAf.ret q h
    · cases h
  | areturn =>
    simp only [zstep] at h
    split at h
    · exact zAf.ret q h
    · cases h
  | return_ =>
    simp only [zstep] at h
    split at h
    · exact zAf.ret q h
    · cases h
  | _ => cases h
theorem zaf_run {wr : Bool} {C : Nat → Bool} {K : Nat → List zV → zS → zR} (hK : ∀ y, C y = true → ∀ as S, zAf wr S (K y as S)) {T : Nat → zE} (ok : ∀ pc, zsaf wr C (T pc).1 (T pc).2.2.2.1 (T pc).2.2.2.2.2 = true) {rt : Nat} :
    ∀ (f pc : Nat) (S : zS) (ls st : List zV), zAf wr S (zrun T K [] rt f pc ls st S)
  | 0, _, _, _, _ => fun q e => by cases e
  | f + 1, pc, S, ls, st => zaf_step hK (ok pc) fun p l s m _ => zaf_run hK ok f p (qW S m) l s
theorem zaf_call {wr : Bool} {C : Nat → Bool} {T : Nat → Nat → zE} {M : Nat → zMi} (hh : ∀ y, C y = true → (M y).2.2.2.2 = []) (ok : ∀ y, C y = true → ∀ pc, zsaf wr C (T y pc).1 (T y pc).2.2.2.1 (T y pc).2.2.2.2.2 = true) :
    ∀ (d y : Nat), C y = true → ∀ (as : List zV) (S : zS), zAf wr S (zcallE T M d y as S)
  | 0, _, _, _, _ => fun q e => by cases e
  | d + 1, y, hy, as, S => fun q e => by
    simp only [zcallE] at e
    obtain ⟨-, e⟩ := bif_inv e
    obtain ⟨f, hf⟩ := (zE0_iff (zgood_call T M d)).mp e
    rw [hh y hy] at hf
    exact zaf_run (zaf_call hh ok d) (ok y hy) f 0 S _ [] q hf
