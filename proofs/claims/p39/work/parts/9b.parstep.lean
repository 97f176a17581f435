/-! One instruction, a method, a call: two runs of the same code are alike. -/
def zTy (t : Nat → Int → Option Bool) : Prop := (∀ u j, (u ≤ 4 ∨ u = 40) → t u j = some false) ∧ ∀ u j, 5 ≤ u → u ≤ 19 → t u j = some true
/-- what an instruction must keep to: references by their places' types, calls within C -/
def zsok (t : Nat → Int → Option Bool) (C : Nat → Bool) (ins : Instr) (a b c : Nat) : Bool := match ins with
  | .aaload => Nat.ble 5 a && Nat.ble a 19
  | .aastore => Nat.ble 5 a && Nat.ble a 19
  | .getfield _ => t (20 + a) b == some (Nat.beq c 5)
  | .putfield _ => Nat.blt a 14 && (t (20 + a) b == some (Nat.beq c 5))
  | .multianewarray _ _ => Nat.ble 5 a && Nat.ble a 19
  | .getstatic _ => Nat.beq a 2
  | .invokestatic _ => (match c with
    | 0 => C a
    | 1 => C a
    | _ => true)
  | .invokevirtual _ => C a
  | .invokespecial _ => (match c with
    | 0 => true
    | _ => C a)
  | _ => true
section
variable {t : Nat → Int → Option Bool} {C : Nat → Bool} {K K' : Nat → List zV → zS → zR}
set_option maxHeartbeats 4000000 in
theorem zpar_step (hty : zTy t) (hK : ∀ y, C y = true → ∀ as as' r S S', zRg t r S S' → zLr r as as' → zPR t r S S' (K y as S) (K' y as' S'))
    {hs : List (Nat × Nat × Nat × Nat)} {rt : Nat} {ins : Instr} {n a b c pc : Nat} (ok : zsok t C ins a b c = true) {k k' : zC}
    {r : Int → Int → Prop} {S S' : zS} {ls ls' st st' : List zV} (hR : zRg t r S S') (hl : zLr r ls ls') (hst : zLr r st st')
    (hk : ∀ p l l' s s' r1 S1 S1', zXt t r r1 S S' S1 S1' → zLr r1 l l' → zLr r1 s s' → zPR t r1 S1 S1' (k p l s S1) (k' p l' s' S1')) :
    zPR t r S S' (zstep K hs rt ins n a b c pc ls st S k) (zstep K' hs rt ins n a b c pc ls' st' S' k') := by
  have h0 : ∀ p l l' s s', zLr r l l' → zLr r s s' → zPR t r S S' (k p l s S) (k' p l' s' S') := fun p l l' s s' q1 q2 => hk p l l' s s' r S S' (zXt.rf hR) q1 q2
  have hs1 : ∀ s s', zLr r s s' → zPR t r S S' (k (pc + n) ls s S) (k' (pc + n) ls' s' S') := fun s s' q => h0 _ _ _ _ _ hl q
  have up : ∀ {r1 S1 S1'}, zXt t r r1 S S' S1 S1' → zLr r1 ls ls' := fun x => hl.mono x.2.1
  have goT : ∀ {R R' : zR} {r1 S1 S1'}, zXt t r r1 S S' S1 S1' → zPR t r1 S1 S1' R R' → zPR t r S S' R R' := fun x g => g.go x
  cases ins with
  | iconst i => exact hs1 _ _ ⟨rfl, hst⟩
  | bipush i => exact hs1 _ _ ⟨rfl, hst⟩
  | sipush i => exact hs1 _ _ ⟨rfl, hst⟩
  | lconst i => exact hs1 _ _ ⟨rfl, hst⟩
  | ldc i => exact hs1 _ _ ⟨rfl, hst⟩
  | ldc_w i => exact hs1 _ _ ⟨rfl, hst⟩
  | ldc2_w i => exact hs1 _ _ ⟨rfl, hst⟩
  | aconst_null => exact hs1 _ _ ⟨hR.1.1.1, hst⟩
  | getstatic i =>
    have e : a = 2 := Nat.eq_of_beq_eq_true ok
    subst e
    exact hs1 _ _ ⟨hR.1.1.2, hst⟩
  | iload_n i => exact zPR.ldi hl hst hs1
  | iload i => exact zPR.ldi hl hst hs1
  | lload_n i => exact zPR.ldl hl hst hs1
  | lload i => exact zPR.ldl hl hst hs1
  | aload_n i => exact zPR.lda hl hst hs1
  | aload i => exact zPR.lda hl hst hs1
  | istore_n i => exact zPR.sti hl hst fun l l' s s' q1 q2 => h0 _ _ _ _ _ q1 q2
  | istore i => exact zPR.sti hl hst fun l l' s s' q1 q2 => h0 _ _ _ _ _ q1 q2
  | lstore_n i => exact zPR.stl hl hst fun l l' s s' q1 q2 => h0 _ _ _ _ _ q1 q2
  | lstore i => exact zPR.stl hl hst fun l l' s s' q1 q2 => h0 _ _ _ _ _ q1 q2
  | astore_n i => exact zPR.sta hl hst fun l l' s s' q1 q2 => h0 _ _ _ _ _ q1 q2
  | astore i => exact zPR.sta hl hst fun l l' s s' q1 q2 => h0 _ _ _ _ _ q1 q2
  | iinc i d =>
    simp only [zstep]
    cases e : ls[a]? with
    | none => exact zPR.no
    | some v =>
      obtain ⟨w, e1, e2⟩ := hl.get a e
      rw [e1]
      rcases v with v | v | v | v <;> rcases w with w | w | w | w <;> first | exact absurd e2 id | exact zPR.no | skip
      rw [show v = w from e2]
      exact h0 _ _ _ _ _ (hl.st1 a rfl) hst
  | iadd => exact zPR.ii hst hs1
  | isub => exact zPR.ii hst hs1
  | imul => exact zPR.ii hst hs1
  | iand => exact zPR.ii hst hs1
  | ior => exact zPR.ii hst hs1
  | ixor => exact zPR.ii hst hs1
  | ishl => exact zPR.ii hst hs1
  | ishr => exact zPR.ii hst hs1
  | iushr => exact zPR.ii hst hs1
  | ladd => exact zPR.ll hst hs1
  | lsub => exact zPR.ll hst hs1
  | lmul => exact zPR.ll hst hs1
  | land => exact zPR.ll hst hs1
  | lor => exact zPR.ll hst hs1
  | lxor => exact zPR.ll hst hs1
  | lshl => exact zPR.li hst hs1
  | lshr => exact zPR.li hst hs1
  | lushr => exact zPR.li hst hs1
  | i2l =>
    simp only [zstep]
    refine zPR.one ?_ hst hs1
    exact fun _ => rfl
  | i2c =>
    simp only [zstep]
    refine zPR.one ?_ hst hs1
    exact fun _ => rfl
  | i2b =>
    simp only [zstep]
    refine zPR.one ?_ hst hs1
    exact fun _ => rfl
  | l2i =>
    simp only [zstep]
    refine zPR.oneL ?_ hst hs1
    exact fun _ => rfl
  | idiv =>
    simp only [zstep]
    split
    · obtain ⟨m, rfl, hst1⟩ := hst.i
      obtain ⟨m, rfl, hst2⟩ := hst1.i
      exact zPR.chk id fun _ => hs1 _ _ ⟨rfl, hst2⟩
    · exact zPR.no
  | irem =>
    simp only [zstep]
    split
    · obtain ⟨m, rfl, hst1⟩ := hst.i
      obtain ⟨m, rfl, hst2⟩ := hst1.i
      exact zPR.chk id fun _ => hs1 _ _ ⟨rfl, hst2⟩
    · exact zPR.no
  | lcmp =>
    simp only [zstep]
    split
    · obtain ⟨m, rfl, hst1⟩ := hst.l
      obtain ⟨m, rfl, hst2⟩ := hst1.l
      exact hs1 _ _ ⟨rfl, hst2⟩
    · exact zPR.no
  | dup =>
    simp only [zstep]
    split
    · obtain ⟨m, rfl, hst1⟩ := hst.i
      exact hs1 _ _ ⟨rfl, rfl, hst1⟩
    · obtain ⟨w, m, rfl, hb, hst1⟩ := hst.a
      exact hs1 _ _ ⟨hb, hb, hst1⟩
    · exact zPR.no
  | dup2 =>
    simp only [zstep]
    split
    · obtain ⟨m, rfl, hst1⟩ := hst.i
      obtain ⟨w, m, rfl, hb, hst2⟩ := hst1.a
      exact hs1 _ _ ⟨rfl, hb, rfl, hb, hst2⟩
    · obtain ⟨m, rfl, hst1⟩ := hst.l
      exact hs1 _ _ ⟨rfl, rfl, hst1⟩
    · exact zPR.no
  | pop =>
    simp only [zstep]
    split
    · obtain ⟨m, rfl, hst1⟩ := hst.i
      exact hs1 _ _ hst1
    · next x l =>
      rcases x with x | x
      · obtain ⟨w, m, rfl, hb, hst1⟩ := hst.a
        exact hs1 _ _ hst1
      · obtain ⟨m, rfl, hst1⟩ := hst.u
        exact hs1 _ _ hst1
    · exact zPR.no
  | goto o => exact h0 _ _ _ _ _ hl hst
  | ifCond cd o =>
    simp only [zstep]
    split
    · obtain ⟨m, rfl, hst1⟩ := hst.i
      exact zPR.cond (h0 _ _ _ _ _ hl hst1) (h0 _ _ _ _ _ hl hst1)
    · exact zPR.no
  | if_icmp cd o =>
    simp only [zstep]
    split
    · obtain ⟨m, rfl, hst1⟩ := hst.i
      obtain ⟨m, rfl, hst2⟩ := hst1.i
      exact zPR.cond (h0 _ _ _ _ _ hl hst2) (h0 _ _ _ _ _ hl hst2)
    · exact zPR.no
  | ifnonnull o =>
    simp only [zstep]
    split
    · next x l =>
      obtain ⟨w, m, rfl, hb, hst1⟩ := hst.a
      simp only
      by_cases e : x = 0
      · rw [if_pos e, if_pos (hR.1.2.1 0 w 0 (e ▸ hb) hR.1.1.1)]
        exact h0 _ _ _ _ _ hl hst1
      · rw [if_neg e, if_neg (fun q : w = 0 => e (hR.1.2.2.1 x 0 0 (by rw [← q]; exact hb) hR.1.1.1))]
        exact h0 _ _ _ _ _ hl hst1
    · exact zPR.no
  | if_acmp cd o =>
    cases cd with
    | eq => exact zPR.no
    | ne =>
      simp only [zstep]
      split
      · next y x l =>
        obtain ⟨w, m, rfl, hw, hst1⟩ := hst.a
        obtain ⟨z, m, rfl, hz, hst2⟩ := hst1.a
        refine zPR.chk ?_ fun _ => ?_
        · have g1 := hR.1.2.2.2 _ _ hw
          have g2 := hR.1.2.2.2 _ _ hz
          omega
        · by_cases e : x = y
          · rw [if_pos e, if_pos (hR.1.2.1 x z w hz (e ▸ hw))]
            exact h0 _ _ _ _ _ hl hst2
          · rw [if_neg e, if_neg (fun q : z = w => e (hR.1.2.2.1 x y z hz (by rw [q]; exact hw)))]
            exact h0 _ _ _ _ _ hl hst2
      · exact zPR.no
  | tableswitch d lo hi o =>
    simp only [zstep]
    split
    · obtain ⟨m, rfl, hst1⟩ := hst.i
      exact h0 _ _ _ _ _ hl hst1
    · exact zPR.no
  | lookupswitch d ps =>
    simp only [zstep]
    split
    · obtain ⟨m, rfl, hst1⟩ := hst.i
      exact h0 _ _ _ _ _ hl hst1
    · exact zPR.no
  | iaload =>
    simp only [zstep]
    refine zPR.ald hR ?_ hst hs1
    exact fun x j hx => hty.1 x j (by omega)
  | laload =>
    simp only [zstep]
    refine zPR.ald hR ?_ hst hs1
    exact fun x j hx => hty.1 x j (by omega)
  | caload =>
    simp only [zstep]
    refine zPR.ald hR ?_ hst hs1
    exact fun x j hx => hty.1 x j (by omega)
  | baload =>
    simp only [zstep]
    refine zPR.ald hR ?_ hst hs1
    exact fun x j hx => hty.1 x j (by omega)
  | aaload =>
    simp only [zsok, Bool.and_eq_true, Nat.ble_eq] at ok
    simp only [zstep]
    refine zPR.ald hR ?_ hst hs1
    exact fun x j hx => hty.2 x j (by omega) (by omega)
  | iastore =>
    simp only [zstep]
    split
    · next v j x l =>
      obtain ⟨m, rfl, hst1⟩ := hst.i
      obtain ⟨m, rfl, hst2⟩ := hst1.i
      obtain ⟨w, m, rfl, hw, hst3⟩ := hst2.a
      have ek := (hR.2.2 x w hw).2.1
      refine zPR.chk (by rw [ek]; exact id) fun q => ?_
      have x1 := zXt.put hR hw (by omega) (j := j) (by omega) (v := v) (w := v) ⟨fun e => (by rw [hty.1 _ j (by omega)] at e; cases e), fun _ => rfl⟩
      exact goT x1 (hk _ _ _ _ _ _ _ _ x1 (up x1) (hst3.mono x1.2.1))
    · exact zPR.no
  | lastore =>
    simp only [zstep]
    split
    · next v j x l =>
      obtain ⟨m, rfl, hst1⟩ := hst.l
      obtain ⟨m, rfl, hst2⟩ := hst1.i
      obtain ⟨w, m, rfl, hw, hst3⟩ := hst2.a
      have ek := (hR.2.2 x w hw).2.1
      refine zPR.chk (by rw [ek]; exact id) fun q => ?_
      have x1 := zXt.put hR hw (by omega) (j := j) (by omega) (v := v) (w := v) ⟨fun e => (by rw [hty.1 _ j (by omega)] at e; cases e), fun _ => rfl⟩
      exact goT x1 (hk _ _ _ _ _ _ _ _ x1 (up x1) (hst3.mono x1.2.1))
    · exact zPR.no
  | castore =>
    simp only [zstep]
    split
    · next v j x l =>
      obtain ⟨m, rfl, hst1⟩ := hst.i
      obtain ⟨m, rfl, hst2⟩ := hst1.i
      obtain ⟨w, m, rfl, hw, hst3⟩ := hst2.a
      have ek := (hR.2.2 x w hw).2.1
      refine zPR.chk (by rw [ek]; exact id) fun q => ?_
      have x1 := zXt.put hR hw (by omega) (j := j) (by omega) (v := v % 65536) (w := v % 65536) ⟨fun e => (by rw [hty.1 _ j (by omega)] at e; cases e), fun _ => rfl⟩
      exact goT x1 (hk _ _ _ _ _ _ _ _ x1 (up x1) (hst3.mono x1.2.1))
    · exact zPR.no
  | bastore =>
    simp only [zstep]
    split
    · next v j x l =>
      obtain ⟨m, rfl, hst1⟩ := hst.i
      obtain ⟨m, rfl, hst2⟩ := hst1.i
      obtain ⟨w, m, rfl, hw, hst3⟩ := hst2.a
      have ek := (hR.2.2 x w hw).2.1
      simp only
      split
      · refine zPR.chk (by rw [ek]; exact id) fun q => ?_
        have x1 := zXt.put hR hw (by omega) (j := j) (by omega) (v := (v + 128) % 256 - 128) (w := (v + 128) % 256 - 128) ⟨fun e => (by rw [hty.1 _ j (by omega)] at e; cases e), fun _ => rfl⟩
        exact goT x1 (hk _ _ _ _ _ _ _ _ x1 (up x1) (hst3.mono x1.2.1))
      · refine zPR.chk (by rw [ek]; exact id) fun q => ?_
        have x1 := zXt.put hR hw (by omega) (j := j) (by omega) (v := v) (w := v) ⟨fun e => (by rw [hty.1 _ j (by omega)] at e; cases e), fun _ => rfl⟩
        exact goT x1 (hk _ _ _ _ _ _ _ _ x1 (up x1) (hst3.mono x1.2.1))
    · exact zPR.no
  | aastore =>
    simp only [zsok, Bool.and_eq_true, Nat.ble_eq] at ok
    simp only [zstep]
    split
    · next v j x l =>
      obtain ⟨v', m, rfl, hv, hst1⟩ := hst.a
      obtain ⟨m, rfl, hst2⟩ := hst1.i
      obtain ⟨w, m, rfl, hw, hst3⟩ := hst2.a
      have ek := (hR.2.2 x w hw).2.1
      have ev := (hR.2.2 v v' hv).2.1
      refine zPR.chk (by rw [ek, ev]; exact id) fun q => ?_
      have x1 := zXt.put hR hw (by omega) (j := j) (by omega) (v := v) (w := v') ⟨fun _ => hv, fun e => (by rw [hty.2 _ j (by omega) (by omega)] at e; cases e)⟩
      exact goT x1 (hk _ _ _ _ _ _ _ _ x1 (up x1) (hst3.mono x1.2.1))
    · exact zPR.no
  | arraylength =>
    simp only [zstep]
    split
    · next x l =>
      obtain ⟨w, m, rfl, hw, hst1⟩ := hst.a
      have ek := (hR.2.2 x w hw).2.1
      refine zPR.chk (by rw [ek]; exact id) fun q => ?_
      exact hs1 _ _ ⟨congrArg Prod.snd ek, hst1⟩
    · exact zPR.no
  | getfield i =>
    simp only [zstep]
    split
    · next x l =>
      obtain ⟨w, m, rfl, hw, hst1⟩ := hst.a
      obtain ⟨-, ek, em⟩ := hR.2.2 x w hw
      refine zPR.chk (by rw [ek]; exact id) fun q => ?_
      refine hs1 _ _ ⟨zVr_tag ⟨fun q5 => (em b).1 ?_, fun q5 => (em b).2 ?_⟩, hst1⟩
      · simp only [zsok, beq_iff_eq] at ok
        rw [q, ok, q5]; rfl
      · simp only [zsok, beq_iff_eq] at ok
        rw [q, ok, zbeq_n q5]
    · exact zPR.no
  | putfield i =>
    simp only [zstep]
    split
    · next v x l =>
      match st', hst with
      | v' :: st', hst =>
      obtain ⟨hv, hst⟩ := hst
      obtain ⟨w, m, rfl, hw, hst1⟩ := hst.a
      obtain ⟨-, ek, em⟩ := hR.2.2 x w hw
      simp only
      refine zPR.chk (by rw [ek]; exact id) fun q => ?_
      refine zPR.putf hv fun z z' g1 g2 => ?_
      simp only [zsok, beq_iff_eq, Bool.and_eq_true, Nat.blt_eq] at ok
      obtain ⟨ok14, ok⟩ := ok
      have x1 := zXt.put hR hw (by omega) (j := (b : Int)) (Int.natCast_nonneg b) (v := z) (w := z') ⟨fun e => g1 (by rw [q, ok] at e; exact Nat.eq_of_beq_eq_true (Option.some.inj e)), fun e => g2 fun q5 => by
        rw [q, ok, q5] at e
        cases e⟩
      exact goT x1 (hk _ _ _ _ _ _ _ _ x1 (up x1) (hst1.mono x1.2.1))
    · exact zPR.no
  | new i =>
    simp only [zstep]
    split
    · obtain ⟨r1, x1, hr⟩ := zXt.alloc hR (20 + a) 0 b
      exact goT x1 (hk _ _ _ _ _ _ _ _ x1 (up x1) ⟨hr, hst.mono x1.2.1⟩)
    · exact zPR.bif (by rw [hst.cat]) (zPR.bump hR)
  | newarray u =>
    simp only [zstep]
    split
    · next x l =>
      obtain ⟨m, rfl, hst1⟩ := hst.i
      refine zPR.chk id fun _ => ?_
      obtain ⟨r1, x1, hr⟩ := zXt.alloc hR (zaty u) x x.toNat
      exact goT x1 (hk _ _ _ _ _ _ _ _ x1 (up x1) ⟨hr, hst1.mono x1.2.1⟩)
    · exact zPR.no
  | anewarray i =>
    simp only [zstep]
    split
    · next x l =>
      obtain ⟨m, rfl, hst1⟩ := hst.i
      refine zPR.chk id fun _ => ?_
      obtain ⟨r1, x1, hr⟩ := zXt.alloc hR a x x.toNat
      exact goT x1 (hk _ _ _ _ _ _ _ _ x1 (up x1) ⟨hr, hst1.mono x1.2.1⟩)
    · exact zPR.no
  | multianewarray i d =>
    simp only [zsok, Bool.and_eq_true, Nat.ble_eq] at ok
    simp only [zstep]
    split
    · next y x l =>
      obtain ⟨m, rfl, hst1⟩ := hst.i
      obtain ⟨m, rfl, hst2⟩ := hst1.i
      refine zPR.chk id fun _ => ?_
      obtain ⟨r1, x1, hr⟩ := zXt.multi hR a b x.toNat y.toNat fun j => hty.2 a j (by omega) (by omega)
      exact goT x1 (hk _ _ _ _ _ _ _ _ x1 (up x1) ⟨hr, hst2.mono x1.2.1⟩)
    · exact zPR.no
  | invokestatic i =>
    simp only [zstep]
    split
    · simp only [zsok] at ok
      refine zPR.bif (by rw [(hst.drop b).cat, hst.len]) (zPR.call (hK a ok _ _ r S S' hR (hst.take b).rev) ?_ ?_)
      · exact fun v v' r1 S1 S1' x1 hv => hk _ _ _ _ _ _ _ _ x1 (up x1) (zLr.push hv ((hst.drop b).mono x1.2.1))
      · exact fun e r1 S1 S1' x1 => zPR.thr x1.1 fun p => hk _ _ _ _ _ _ _ _ x1 (up x1) ⟨trivial, trivial⟩
    · simp only [zsok] at ok
      refine zPR.bif (by rw [(hst.drop b).cat, hst.len]) (zPR.retn (hK a ok _ _ r S S' hR (hst.take b).rev) ?_)
      exact fun v v' r1 S1 S1' x1 hv => hk _ _ _ _ _ _ _ _ x1 (up x1) (zLr.push hv ((hst.drop b).mono x1.2.1))
    · exact zPR.mm hst hs1
    · exact zPR.mm hst hs1
    · exact zPR.ml hst hs1
  | invokevirtual i =>
    simp only [zsok] at ok
    simp only [zstep]
    have hd := hst.drop b
    have ht := hst.take b
    have hlen := hst.len
    generalize st.drop b = sd at hd ⊢
    generalize st'.drop b = sd' at hd ⊢
    split
    · next x l =>
      obtain ⟨w, m, rfl, hw, hd1⟩ := hd.a
      have ek := (hR.2.2 x w hw).2.1
      refine zPR.bif (by rw [hd1.cat, hlen]) (zPR.chk (by rw [ek]; exact id) fun _ => zPR.call (hK a ok _ _ r S S' hR ⟨hw, ht.rev⟩) ?_ ?_)
      · exact fun v v' r1 S1 S1' x1 hv => hk _ _ _ _ _ _ _ _ x1 (up x1) (zLr.push hv (hd1.mono x1.2.1))
      · exact fun e r1 S1 S1' x1 => zPR.thr x1.1 fun p => hk _ _ _ _ _ _ _ _ x1 (up x1) ⟨trivial, trivial⟩
    · exact zPR.no
  | invokespecial i =>
    simp only [zstep]
    have nz : ∀ x w, r x w → x ≠ 0 → w ≠ 0 := fun x w q h e => h (hR.1.2.2.1 x 0 0 (e ▸ q) hR.1.1.1)
    split
    · split
      · next x l =>
        obtain ⟨w, m, rfl, hw, hst1⟩ := hst.a
        exact zPR.bif (by rw [hst1.cat]) (zPR.chk (nz x w hw) fun _ => hs1 _ _ hst1)
      · exact zPR.no
    · next c0 =>
      have ok : C a = true := by
        cases c with
        | zero => exact absurd rfl c0
        | succ c => exact ok
      have hd := hst.drop b
      have ht := hst.take b
      have hlen := hst.len
      generalize st.drop b = sd at hd ⊢
      generalize st'.drop b = sd' at hd ⊢
      split
      · next x l =>
        obtain ⟨w, m, rfl, hw, hd1⟩ := hd.a
        refine zPR.bif (by rw [hd1.cat, hlen]) (zPR.chk (nz x w hw) fun _ => zPR.retn (hK a ok _ _ r S S' hR ⟨hw, ht.rev⟩) ?_)
        exact fun v v' r1 S1 S1' x1 hv => zPR.void hv (hk _ _ _ _ _ _ _ _ x1 (up x1) (hd1.mono x1.2.1))
      · exact zPR.no
  | ireturn =>
    simp only [zstep]
    split
    · obtain ⟨m, rfl, hst1⟩ := hst.i
      obtain rfl := hst1.n
      exact zPR.rng (zPR.ret hR rfl)
    · exact zPR.no
  | lreturn =>
    simp only [zstep]
    split
    · obtain ⟨m, rfl, hst1⟩ := hst.l
      obtain rfl := hst1.n
      exact zPR.ret hR rfl
    · exact zPR.no
  | areturn =>
    simp only [zstep]
    split
    · obtain ⟨w, m, rfl, hw, hst1⟩ := hst.a
      obtain rfl := hst1.n
      exact zPR.ret hR hw
    · exact zPR.no
  | return_ =>
    simp only [zstep]
    split
    · obtain rfl := hst.n
      exact zPR.ret hR trivial
    · exact zPR.no
  | _ => exact zPR.no
/-- a method's run -/
theorem zpar_run (hty : zTy t) (hK : ∀ y, C y = true → ∀ as as' r S S', zRg t r S S' → zLr r as as' → zPR t r S S' (K y as S) (K' y as' S'))
    {T : Nat → zE} (ok : ∀ pc, zsok t C (T pc).1 (T pc).2.2.2.1 (T pc).2.2.2.2.1 (T pc).2.2.2.2.2 = true) {hs : List (Nat × Nat × Nat × Nat)} {rt : Nat} :
    ∀ (f pc : Nat) (r : Int → Int → Prop) (S S' : zS) (ls ls' st st' : List zV), zRg t r S S' → zLr r ls ls' → zLr r st st' → zPR t r S S' (zrun T K hs rt f pc ls st S) (zrun T K' hs rt f pc ls' st' S')
  | 0, _, _, _, _, _, _, _, _, _, _, _ => zPR.no
  | f + 1, pc, r, S, S', ls, ls', st, st', hR, hl, hst => zpar_step hty hK (ok pc) hR (hl.mask _) hst fun p l l' s s' r1 S1 S1' x1 q1 q2 => zpar_run hty hK ok f p r1 S1 S1' l l' s s' x1.1 q1 q2
end
/-- calls of two tables that are the same within C -/
theorem zpar_call {t : Nat → Int → Option Bool} {C : Nat → Bool} (hty : zTy t) {T T' : Nat → Nat → zE} {M M' : Nat → zMi} (hT : ∀ y, C y = true → T' y = T y) (hM : ∀ y, C y = true → (M' y).2.2 = (M y).2.2)
    (ok : ∀ y, C y = true → ∀ pc, zsok t C (T y pc).1 (T y pc).2.2.2.1 (T y pc).2.2.2.2.1 (T y pc).2.2.2.2.2 = true) :
    ∀ (d y : Nat), C y = true → ∀ (as as' : List zV) (r : Int → Int → Prop) (S S' : zS), zRg t r S S' → zLr r as as' → zPR t r S S' (zcallE T M d y as S) (zcallE T' M' d y as' S')
  | 0, _, _, _, _, _, _, _, _, _ => zPR.no
  | d + 1, y, hy, as, as', r, S, S', hR, ha => by
    have e1 : (M' y).2.2.1 = (M y).2.2.1 := by rw [hM y hy]
    have e2 : zrt (M' y) = zrt (M y) := by unfold zrt; rw [hM y hy]
    have e3 : (M' y).2.2.2.2 = (M y).2.2.2.2 := by rw [hM y hy]
    have hg := ha.args
    show zPR t r S S' (bif Nat.ble (zargs as).length (M y).2.2.1 then zE0 (T y) (zcallE T M d) (M y).2.2.2.2 (zrt (M y)) 0 (zargs as ++ List.replicate ((M y).2.2.1 - (zargs as).length) vu) [] S else none) (bif Nat.ble (zargs as').length (M' y).2.2.1 then zE0 (T' y) (zcallE T' M' d) (M' y).2.2.2.2 (zrt (M' y)) 0 (zargs as' ++ List.replicate ((M' y).2.2.1 - (zargs as').length) vu) [] S' else none)
    rw [e1, e2, e3, hT y hy, ← hg.len]
    refine zPR.bif rfl fun q e => ?_
    obtain ⟨f, hf⟩ := (zE0_iff (zgood_call T M d)).mp e
    obtain ⟨q', r', h1, h2, h3⟩ := zpar_run hty (zpar_call hty hT hM ok d) (ok y hy) f 0 r S S' _ _ [] [] hR (hg.app (zLr.rep _)) trivial q hf
    exact ⟨q', r', (zE0_iff (zgood_call T' M' d)).mpr ⟨f, h1⟩, h2, h3⟩
