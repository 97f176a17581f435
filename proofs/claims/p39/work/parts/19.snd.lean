/-! A step of the interpreter is a step of the machine: what the tables must say of an instruction, and the one theorem. -/
def zcallee (y : zMi) (n : Nat) : Prop := (y.1.cls ≠ "java/lang/invoke/MethodHandle" ∧ y.1.cls ≠ "java/lang/invoke/VarHandle") ∧ (parseMethodDescriptor y.1.desc).map (fun d => d.parameters.length) = some n ∧ y.2.2.1 ≤ 70 ∧ zcodeW y ∈ lw_tbl
def zrt (y : zMi) : Nat := match y.2.2.2.1 with
  | some t => zcode t
  | none => 9
def zaux (M : Nat → zMi) (y : zMi) (pc : Nat) (ins : Instr) (n a b c : Nat) : Prop := match ins with
  | .iconst i => n = 1 ∧ -2147483648 ≤ i ∧ i < 2147483648
  | .bipush i => n = 2 ∧ -128 ≤ i ∧ i < 128
  | .sipush i => n = 3 ∧ -32768 ≤ i ∧ i < 32768
  | .lconst f => n = 1 ∧ (f : Nat) = a
  | .ldc i => n = 2 ∧ a < 2147483648 ∧ Cond.constant y.1.cls i (Int32.ofInt (zsg a b)) ∈ lw_tbl
  | .ldc_w i => n = 3 ∧ a < 2147483648 ∧ Cond.constant y.1.cls i (Int32.ofInt (zsg a b)) ∈ lw_tbl
  | .ldc2_w i => n = 3 ∧ a < 9223372036854775808 ∧ Cond.constantLong y.1.cls i (Int64.ofInt (zsg a b)) ∈ lw_tbl
  | .aconst_null => n = 1
  | .getstatic i => n = 3 ∧ a = 2 ∧ Cond.fieldLink y.1.cls i RX12 "LETTER_CELLS" "[I" ∈ lw_tbl
  | .iload_n q => n = 1 ∧ (q : Nat) = a
  | .lload_n q => n = 1 ∧ (q : Nat) = a
  | .aload_n q => n = 1 ∧ (q : Nat) = a
  | .iload q => n = 2 ∧ q = a
  | .lload q => n = 2 ∧ q = a
  | .aload q => n = 2 ∧ q = a
  | .istore_n q => n = 1 ∧ (q : Nat) = a ∧ a < y.2.2.1
  | .astore_n q => n = 1 ∧ (q : Nat) = a ∧ a < y.2.2.1
  | .lstore_n q => n = 1 ∧ (q : Nat) = a ∧ a + 1 < y.2.2.1
  | .istore q => n = 2 ∧ q = a ∧ a < y.2.2.1
  | .astore q => n = 2 ∧ q = a ∧ a < y.2.2.1
  | .lstore q => n = 2 ∧ q = a ∧ a + 1 < y.2.2.1
  | .iinc q d => n = 3 ∧ q = a ∧ a < y.2.2.1 ∧ -2147483648 ≤ d ∧ d < 2147483648
  | .goto o => n = 3 ∧ (pc : Int) + o = (a : Int)
  | .ifCond _ o => n = 3 ∧ (pc : Int) + o = (a : Int)
  | .if_icmp _ o => n = 3 ∧ (pc : Int) + o = (a : Int)
  | .ifnonnull o => n = 3 ∧ (pc : Int) + o = (a : Int)
  | .if_acmp _ o => n = 3 ∧ (pc : Int) + o = (a : Int)
  | .tableswitch d lo hi offs => 0 ≤ (pc : Int) + d ∧ (∀ o ∈ offs.toList, 0 ≤ (pc : Int) + o) ∧ (offs.size : Int) = hi - lo + 1
  | .lookupswitch d ps => 0 ≤ (pc : Int) + d ∧ (∀ q ∈ ps.toList, 0 ≤ (pc : Int) + q.2) ∧ (ps.toList.zip (ps.toList.drop 1)).all (fun (a, next) => a.1 < next.1) = true
  | .aaload => n = 1 ∧ 5 ≤ a ∧ a < 13
  | .aastore => n = 1 ∧ 5 ≤ a ∧ a < 13 ∧ ∃ ci, ci < 13 ∧ b = 20 + ci ∧ zaT a = .object (zRX ci)
  | .getfield i => n = 3 ∧ a < 13 ∧ b < zN a ∧ c = zcode (zfT a b) ∧ Cond.fieldLink y.1.cls i (zRX a) (zTX a b).2.1 (zTX a b).2.2.1 ∈ lw_tbl
  | .putfield i => n = 3 ∧ a < 13 ∧ b < zN a ∧ c = zcode (zfT a b) ∧ Cond.fieldLink y.1.cls i (zRX a) (zTX a b).2.1 (zTX a b).2.2.1 ∈ lw_tbl ∧ ((zTX a b).2.2.2 = false ∨ (y.1.name = "<init>" ∧ zRX a = y.1.cls))
  | .new i => n = 3 ∧ (match c with
    | 0 => a < 13 ∧ b = zN a ∧ Cond.classLink y.1.cls i (zRX a) ∈ lw_tbl ∧ Cond.instantiable (zRX a) (zN a) ∈ lw_tbl ∧ Cond.initialized (zRX a) ∈ lw_tbl
    | _ => a < 3 ∧ y.1.cls = RX12 ∧ y.2.2.2.2 = [] ∧ zthrows y.2.1 pc a)
  | .newarray t => n = 2 ∧ zaty t < 5 ∧ Cond.arrayClass (newarray.typeOf t) ∈ lw_tbl
  | .anewarray i => n = 3 ∧ 5 ≤ a ∧ a < 13 ∧ ∃ C, zaT a = .object C ∧ Cond.classLink y.1.cls i C ∈ lw_tbl ∧ Cond.arrayOver (.object C) ∈ lw_tbl
  | .multianewarray i k => n = 4 ∧ k = 2 ∧ a = 8 ∧ b = 0 ∧ Cond.classLink y.1.cls i ("[" ++ (FieldType.array .int).toString) ∈ lw_tbl ∧ Cond.arrayOver (.array .int) ∈ lw_tbl ∧ Cond.arrayClass .int ∈ lw_tbl
  | .invokestatic i => n = 3 ∧ (match c with
    | 0 => Cond.static (M a).1 ∈ lw_tbl ∧ Cond.initialized (M a).1.cls ∈ lw_tbl ∧ zcallee (M a) b ∧ Cond.methodLink y.1.cls i (M a).1 ∈ lw_tbl
    | 1 => Cond.static (M a).1 ∈ lw_tbl ∧ Cond.initialized (M a).1.cls ∈ lw_tbl ∧ zcallee (M a) b ∧ (M a).2.2.2.2 = [] ∧ ∃ host, Cond.methodLinkNest y.1.cls i (M a).1 host ∈ lw_tbl
    | 2 => Cond.methodLink y.1.cls i Lib.Math.max.name ∈ lw_tbl ∧ Cond.static Lib.Math.max.name ∈ lw_tbl ∧ Cond.initialized "java/lang/Math" ∈ lw_tbl ∧ Cond.code Lib.Math.max.name Lib.Math.max.code 2 (some .int) ∈ lw_tbl
    | 3 => Cond.methodLink y.1.cls i Lib.Math.min.name ∈ lw_tbl ∧ Cond.static Lib.Math.min.name ∈ lw_tbl ∧ Cond.initialized "java/lang/Math" ∈ lw_tbl ∧ Cond.code Lib.Math.min.name Lib.Math.min.code 2 (some .int) ∈ lw_tbl
    | _ => Cond.methodLink y.1.cls i Lib.MathLoose.min_long.x ∈ lw_tbl ∧ Cond.static Lib.MathLoose.min_long.x ∈ lw_tbl ∧ Cond.initialized "java/lang/Math" ∈ lw_tbl ∧ Cond.code Lib.MathLoose.min_long.x Lib.MathLoose.min_long.code 4 (some .long) ∈ lw_tbl)
  | .invokevirtual i => n = 3 ∧ c < 13 ∧ (M a).2.2.2.2 = [] ∧ Cond.methodLink y.1.cls i (M a).1 ∈ lw_tbl ∧ Cond.instanceMethod (M a).1 ∈ lw_tbl ∧ Cond.selects (zRX c) (M a).1 (M a).1 ∈ lw_tbl ∧ Cond.initialized (M a).1.cls ∈ lw_tbl ∧ zcallee (M a) b
  | .invokespecial i => n = 3 ∧ (match c with
    | 0 => Cond.methodLink y.1.cls i Lib.objectInit ∈ lw_tbl ∧ Cond.instanceMethod Lib.objectInit ∈ lw_tbl ∧ Cond.code Lib.objectInit ⟨#[0xb1]⟩ 1 none ∈ lw_tbl
    | _ => (M a).2.2.2.2 = [] ∧ (M a).2.2.2.1 = none ∧ (M a).1.name = "<init>" ∧ (Cond.methodLink y.1.cls i (M a).1 ∈ lw_tbl ∨ ∃ host, Cond.methodLinkNest y.1.cls i (M a).1 host ∈ lw_tbl) ∧ Cond.instanceMethod (M a).1 ∈ lw_tbl ∧ Cond.initialized (M a).1.cls ∈ lw_tbl ∧ zcallee (M a) b)
  | .ireturn => n = 1 ∧ ∃ ty, y.2.2.2.1 = some ty ∧ (zcode ty = 0 ∨ zcode ty = 2 ∨ zcode ty = 3 ∨ zcode ty = 4)
  | .lreturn => n = 1 ∧ y.2.2.2.1 = some .long
  | .areturn => n = 1 ∧ ∃ ty, y.2.2.2.1 = some ty ∧ ((∃ n, ty = .object n) ∨ ∃ t, ty = .array t)
  | .return_ => n = 1 ∧ y.2.2.2.1 = none
  | _ => n = 1
/-- what a method's handlers rest on -/
def zhok (y : zMi) : Prop := y.2.2.2.2 = [] ∨ ((∀ x, x < 3 → Cond.classLink y.1.cls (zXi x) (zX x) ∈ lw_tbl) ∧ (∀ x, x < 3 → Cond.castable (zX x) (zX x) ∈ lw_tbl) ∧ ∀ z ∈ y.2.2.2.2, z.2.2.2 < 3)
section
variable {p : Program} {l : Launch} {e : Env} {R : Room} {s s0 : State} {m : MethodId} {args args0 : Array Value} {below : List Frame} {meth : Method} {c : Code}
variable {b0 L b2 : Nat} {xs ys : Nat → Int32} {D : va_G} {DA : Nat → ClassId} {A0 : Int → Nat} {n0 c0 w0 : Nat} {pc : Nat} {als ast : List zV} {S : zS}
variable {M : Nat → zMi} {y : zMi} {K : Nat → List zV → zS → zR} {k : zC} {r : zO × zS} {d : Nat} {ins : Instr} {n a b q9 : Nat}

theorem zcok_of {y : zMi} {n : Nat} (h : zcallee y n) (hRf : d + 8 ≤ R.frames) (hRl : 100 * d + 300 ≤ R.locals) : zcok y n d R := ⟨h.1, h.2.1, h.2.2.1, h.2.2.2, hRf, hRl⟩
theorem zno {cc : Code} {hs : List (Nat × Nat × Nat × Nat)} (h : cc.exceptionTable.toList = tableOf (zhh hs)) (h0 : hs = []) : ∀ z ∈ cc.exceptionTable.toList, False := by
  intro z hz
  rw [h, h0] at hz
  cases hz
/-- a call's end, in the caller -/
theorem zs_end {v : Option zV ⊕ Nat} {S1 : zS} {kk : Nat} (hx : p.tables.exec = Jvm.exec) (hb : c.code = y.2.1) (w0' : zW0 l s0 args0 D DA b0 L xs b2 ys) (hnc : zNc s0) (ws : zWs s0 s) (hown : s.vm.findClass y.1.cls = some m.cls) (htab : c.exceptionTable.toList = tableOf (zhh y.2.2.2.2) ∨ (y.2.2.2.2 = [] ∧ ∃ ov, r.1 = .inl ov)) (hlocks : meth.locks = false) (hho : zhok y)
    (hrun : zRunOk p l e R s m args below meth c s0 b0 L xs b2 ys D DA y.2.2.1 c0 w0 pc als ast S kk (v, S1)) (hm : zmono S S1)
    (h : (∃ ov, v = .inl ov ∧ zSnd p l e R s m args below meth c (vx_MQ below (zQc s0.heap.size b0 L xs b2 ys D DA A0 n0 r) (zXC s0.heap.size b0 L xs b2 ys D DA A0 n0 r) args s (zc r.2 - c0) (zw r.2 - w0) (zfr s0)) s0.heap.size b0 L xs b2 ys D DA y.2.2.1 A0 n0 c0 w0 (pc + 3) als (zpush ov (ast.drop kk)) S1) ∨ (∃ x, v = .inr x ∧ ((y.2.2.2.2 = [] ∧ r = (.inr x, S1)) ∨ ∃ hh, zcatch y.2.2.2.2 pc x = some hh ∧ zSnd p l e R s m args below meth c (vx_MQ below (zQc s0.heap.size b0 L xs b2 ys D DA A0 n0 r) (zXC s0.heap.size b0 L xs b2 ys D DA A0 n0 r) args s (zc r.2 - c0) (zw r.2 - w0) (zfr s0)) s0.heap.size b0 L xs b2 ys D DA y.2.2.1 A0 n0 c0 w0 hh als [vu] S1))) : zSnd p l e R s m args below meth c (vx_MQ below (zQc s0.heap.size b0 L xs b2 ys D DA A0 n0 r) (zXC s0.heap.size b0 L xs b2 ys D DA A0 n0 r) args s (zc r.2 - c0) (zw r.2 - w0) (zfr s0)) s0.heap.size b0 L xs b2 ys D DA y.2.2.1 A0 n0 c0 w0 pc als ast S := by
  rcases h with ⟨ov, rfl, h⟩ | ⟨x, rfl, ⟨h0, rfl⟩ | ⟨hh, hc, h⟩⟩
  · exact zs_ret hrun hm h
  · rcases htab with htab | ⟨-, ov, ho⟩
    · exact zs_thr hrun hm (zno htab h0) hlocks
    · cases ho
  · have htab := htab.resolve_right (fun w => by rw [w.1] at hc; cases hc)
    rcases hho with h0 | ⟨o1, o2, o3⟩
    · rw [h0] at hc
      cases hc
    · obtain ⟨pre, q, suf, e1, -, -, -, e2, -⟩ := zcatch_spec _ _ _ _ hc
      have hx3 : x < 3 := by
        rw [← e2]
        exact o3 q (by rw [e1]; exact List.mem_append_right _ List.mem_cons_self)
      exact zs_catch w0' ws hnc hown hrun hm htab hc hx3 o3 o1 o2 h
theorem zs_max {cc : ByteArray} {Q : State → Prop} {nL i : Nat} {x z : Int} {t : List zV} {own : String} (hx : p.tables.exec = Jvm.exec) (hb : c.code = cc) (w0' : zW0 l s0 args0 D DA b0 L xs b2 ys) (ws : zWs s0 s) (hown : s.vm.findClass own = some m.cls) (hml : c.maxLocals = nL) (hdg : decode cc pc = .ok (.invokestatic i, 3))
    (h1' : Cond.methodLink own i Lib.Math.max.name ∈ lw_tbl) (h2' : Cond.static Lib.Math.max.name ∈ lw_tbl) (h3' : Cond.initialized "java/lang/Math" ∈ lw_tbl) (h4' : Cond.code Lib.Math.max.name Lib.Math.max.code 2 (some .int) ∈ lw_tbl) (hcat : zcat t ≤ 8) (hRf : 1 ≤ R.frames) (hRl : 30 ≤ R.locals) (hRc : zc S - c0 ≤ R.cells) (hRs : zw S - w0 ≤ R.slots)
    (k : zSnd p l e R s m args below meth c Q s0.heap.size b0 L xs b2 ys D DA nL A0 n0 c0 w0 (pc + 3) als (vi (if x < z then z else x) :: t) S) : zSnd p l e R s m args below meth c Q s0.heap.size b0 L xs b2 ys D DA nL A0 n0 c0 w0 pc als (vi z :: vi x :: t) S := by
  intro A H ls st locs h1 h2 h3 h4 h5 h6 h7 h8
  obtain ⟨_, st, rfl, ⟨v, rfl, rfl⟩, ho⟩ := zRs_cons h2
  obtain ⟨_, st, rfl, ⟨u, rfl, rfl⟩, hp⟩ := zRs_cons ho
  have hcs := zRs_cat hp
  refine va_mmax hx hb (by rw [hml]; exact h1.2.1.symm) hown (w0'.wd ws h1' rfl _) (w0'.wd ws h2' rfl _) (w0'.wd ws h3' rfl _) (w0'.wd ws h4' rfl _) hRf (by omega) hRc hRs hdg ?_
  refine k A H ls _ locs h1 ⟨⟨_, rfl, ?_⟩, hp⟩ h3 h4 h5 h6 h7 h8
  have E : u < v ↔ u.toInt < v.toInt := Int32.lt_iff_toInt_lt
  by_cases hq : u < v
  · rw [if_pos hq, if_pos (E.mp hq)]
  · rw [if_neg hq, if_neg (fun w => hq (E.mpr w))]
theorem zs_min {cc : ByteArray} {Q : State → Prop} {nL i : Nat} {x z : Int} {t : List zV} {own : String} (hx : p.tables.exec = Jvm.exec) (hb : c.code = cc) (w0' : zW0 l s0 args0 D DA b0 L xs b2 ys) (ws : zWs s0 s) (hown : s.vm.findClass own = some m.cls) (hml : c.maxLocals = nL) (hdg : decode cc pc = .ok (.invokestatic i, 3))
    (h1' : Cond.methodLink own i Lib.Math.min.name ∈ lw_tbl) (h2' : Cond.static Lib.Math.min.name ∈ lw_tbl) (h3' : Cond.initialized "java/lang/Math" ∈ lw_tbl) (h4' : Cond.code Lib.Math.min.name Lib.Math.min.code 2 (some .int) ∈ lw_tbl) (hcat : zcat t ≤ 8) (hRf : 1 ≤ R.frames) (hRl : 30 ≤ R.locals) (hRc : zc S - c0 ≤ R.cells) (hRs : zw S - w0 ≤ R.slots)
    (k : zSnd p l e R s m args below meth c Q s0.heap.size b0 L xs b2 ys D DA nL A0 n0 c0 w0 (pc + 3) als (vi (if z < x then z else x) :: t) S) : zSnd p l e R s m args below meth c Q s0.heap.size b0 L xs b2 ys D DA nL A0 n0 c0 w0 pc als (vi z :: vi x :: t) S := by
  intro A H ls st locs h1 h2 h3 h4 h5 h6 h7 h8
  obtain ⟨_, st, rfl, ⟨v, rfl, rfl⟩, ho⟩ := zRs_cons h2
  obtain ⟨_, st, rfl, ⟨u, rfl, rfl⟩, hp⟩ := zRs_cons ho
  have hcs := zRs_cat hp
  refine va_mmin hx hb (by rw [hml]; exact h1.2.1.symm) hown (w0'.wd ws h1' rfl _) (w0'.wd ws h2' rfl _) (w0'.wd ws h3' rfl _) (w0'.wd ws h4' rfl _) hRf (by omega) hRc hRs hdg ?_
  refine k A H ls _ locs h1 ⟨⟨_, rfl, ?_⟩, hp⟩ h3 h4 h5 h6 h7 h8
  have E : v < u ↔ v.toInt < u.toInt := Int32.lt_iff_toInt_lt
  by_cases hq : v < u
  · rw [if_pos hq, if_pos (E.mp hq)]
  · rw [if_neg hq, if_neg (fun w => hq (E.mpr w))]
theorem zs_minl {cc : ByteArray} {Q : State → Prop} {nL i : Nat} {x z : Int} {t : List zV} {own : String} (hx : p.tables.exec = Jvm.exec) (hb : c.code = cc) (w0' : zW0 l s0 args0 D DA b0 L xs b2 ys) (ws : zWs s0 s) (hown : s.vm.findClass own = some m.cls) (hml : c.maxLocals = nL) (hdg : decode cc pc = .ok (.invokestatic i, 3))
    (h1' : Cond.methodLink own i Lib.MathLoose.min_long.x ∈ lw_tbl) (h2' : Cond.static Lib.MathLoose.min_long.x ∈ lw_tbl) (h3' : Cond.initialized "java/lang/Math" ∈ lw_tbl) (h4' : Cond.code Lib.MathLoose.min_long.x Lib.MathLoose.min_long.code 4 (some .long) ∈ lw_tbl) (hcat : zcat t ≤ 8) (hRf : 1 ≤ R.frames) (hRl : 30 ≤ R.locals) (hRc : zc S - c0 ≤ R.cells) (hRs : zw S - w0 ≤ R.slots)
    (k : zSnd p l e R s m args below meth c Q s0.heap.size b0 L xs b2 ys D DA nL A0 n0 c0 w0 (pc + 3) als (vl (if z < x then z else x) :: t) S) : zSnd p l e R s m args below meth c Q s0.heap.size b0 L xs b2 ys D DA nL A0 n0 c0 w0 pc als (vl z :: vl x :: t) S := by
  intro A H ls st locs h1 h2 h3 h4 h5 h6 h7 h8
  obtain ⟨_, st, rfl, ⟨v, rfl, rfl⟩, ho⟩ := zRs_cons h2
  obtain ⟨_, st, rfl, ⟨u, rfl, rfl⟩, hp⟩ := zRs_cons ho
  have hcs := zRs_cat hp
  refine va_mmin_long hx hb (by rw [hml]; exact h1.2.1.symm) hown (w0'.wd ws h1' rfl _) (w0'.wd ws h2' rfl _) (w0'.wd ws h3' rfl _) (w0'.wd ws h4' rfl _) hRf (by omega) hRc hRs hdg ?_
  refine k A H ls _ locs h1 ⟨⟨_, rfl, ?_⟩, hp⟩ h3 h4 h5 h6 h7 h8
  have E : v < u ↔ v.toInt < u.toInt := Int64.lt_iff_toInt_lt
  by_cases hq : v < u
  · rw [if_pos hq, if_pos (E.mp hq)]
  · rw [if_neg hq, if_neg (fun w => hq (E.mpr w))]
theorem zAOA {s0 s : State} {args0 : Array Value} (hW : s0.WarmedH s.vm) (h : (Cond.arrayOver (.array .int)).before args0 s0 = true) : va_AOA .int s := by
  have hvm := hW.alike
  simp only [Cond.before, Cond.holds, Cond.value, beq_iff_eq] at h
  cases hc : s0.vm.findClass (FieldType.array .int).toString with
  | none => simp [hc] at h
  | some comp =>
    simp only [hc, Option.bind_some, Option.bind_eq_some_iff, Option.map_eq_some_iff] at h
    obtain ⟨c9, hi, k9, hk, hb⟩ := h
    obtain ⟨k', hk', he⟩ := hvm.2.2 _ _ hk
    have hi' : (s.vm.classes.findIdx? fun (x : Class) => match x.kind with | .array component _ => component == comp | _ => false) = some c9 := by
      have e9 : s.vm.bare = s0.vm.bare := by first | exact hvm.bare_eq | exact hvm.bare_eq.symm
      have e8 := va_idx_bare s.vm comp
      rw [e9] at e8
      exact e8.symm.trans ((va_idx_bare s0.vm comp).trans hi)
    have f1 : s.vm.findClass (FieldType.array .int).toString = some comp := by rw [hvm.findClass]; exact hc
    cases hkind : k9.kind with
    | array component ty =>
      rw [hkind] at hb
      simp only [Bool.and_eq_true, decide_eq_true_eq] at hb
      have hkind' : k'.kind = .array component (.array .int) := by rw [he]; rw [← hb.1]; exact hkind
      have f2 : s.vm.findClass ("[" ++ (FieldType.array .int).toString) = some c9 := by rw [hvm.findClass]; exact hb.2
      unfold va_AOA Cond.before Cond.holds
      simp only [Cond.value]
      rw [f1, Option.bind_some]
      refine (congrArg (fun o : Option Nat => (o.bind (fun c => (s.vm.classes[c]?).map fun (k : Class) => match k.kind with | .array _ ty => decide (ty = FieldType.array .int) && decide (s.vm.findClass ("[" ++ (FieldType.array .int).toString) = some c) | _ => false) == some true)) hi').trans ?_
      simp [hk', hkind', f2]
    | _ => rw [hkind] at hb; simp at hb
theorem zinj {fr b0 L : Nat} {xs : Nat → Int32} {b2 : Nat} {ys : Nat → Int32} {D : va_G} {DA : Nat → ClassId} {A : Int → Nat} {S : zS} {H : Heap} {x z : Int} (h : zH fr b0 L xs b2 ys D DA A S H) (x3 : 3 ≤ x) (xn : x < zn S) (z3 : 3 ≤ z) (zn' : z < zn S) (he : A x = A z) : x = z := by
  have := h.2.2.1.1 _ _ _ _ (zws_get (DA := DA) (A := A) x3 xn) (zws_get (DA := DA) (A := A) z3 zn') he
  omega
theorem zs_acmp_ne {cc : ByteArray} {Q : State → Prop} {nL : Nat} {x z : Int} {t : List zV} {o : Int} {a : Nat} (hx : p.tables.exec = Jvm.exec) (hb : c.code = cc) (hdg : decode cc pc = .ok (.if_acmp .ne o, 3)) (ht : (pc : Int) + o = (a : Int)) (hq : (x = 0 ∨ 3 ≤ x) ∧ (z = 0 ∨ 3 ≤ z)) (kt : ¬ x = z → zSnd p l e R s m args below meth c Q s0.heap.size b0 L xs b2 ys D DA nL A0 n0 c0 w0 a als t S) (kf : x = z → zSnd p l e R s m args below meth c Q s0.heap.size b0 L xs b2 ys D DA nL A0 n0 c0 w0 (pc + 3) als t S) : zSnd p l e R s m args below meth c Q s0.heap.size b0 L xs b2 ys D DA nL A0 n0 c0 w0 pc als (vr z :: vr x :: t) S := by
  intro A H ls st locs h1 h2 h3 h4 h5 h6 h7 h8
  obtain ⟨_, st, rfl, ⟨rfl, g3, g4⟩, ho⟩ := zRs_cons h2
  obtain ⟨_, st, rfl, ⟨rfl, y3, y4⟩, hp⟩ := zRs_cons ho
  have key : zad A x = zad A z ↔ x = z := by
    constructor
    · intro w
      unfold zad at w
      by_cases hx0 : x = 0
      · rw [if_pos hx0] at w
        by_cases hz0 : z = 0
        · omega
        · rw [if_neg hz0] at w
          cases w
      · rw [if_neg hx0] at w
        by_cases hz0 : z = 0
        · rw [if_pos hz0] at w
          cases w
        · rw [if_neg hz0] at w
          exact zinj h3 (hq.1.resolve_left hx0) y4 (hq.2.resolve_left hz0) g4 (Option.some.inj w)
    · intro w
      rw [w]
  exact lv_acmp_ne hx hb hdg ht (fun w => kt (fun q => w (key.mpr q)) A H ls _ locs h1 hp h3 h4 h5 h6 h7 h8) (fun w => kf (key.mp w) A H ls _ locs h1 hp h3 h4 h5 h6 h7 h8)
set_option maxHeartbeats 2000000 in
theorem zstep_snd (hx : p.tables.exec = Jvm.exec) (hb : c.code = y.2.1) (w0' : zW0 l s0 args0 D DA b0 L xs b2 ys) (hnc : zNc s0) (ws : zWs s0 s) (hown : s.vm.findClass y.1.cls = some m.cls) (hml : c.maxLocals = y.2.2.1) (htab : c.exceptionTable.toList = tableOf (zhh y.2.2.2.2) ∨ (y.2.2.2.2 = [] ∧ ∃ ov, r.1 = .inl ov)) (hret : meth.sig.returnType = y.2.2.2.1) (hlocks : meth.locks = false) (hname : y.1.name = "<init>" → meth.name = "<init>") (hho : zhok y)
    (hRf : d + 8 ≤ R.frames) (hRl : 100 * d + 300 ≤ R.locals) (hRc : zc r.2 - c0 ≤ R.cells) (hRs : zw r.2 - w0 ≤ R.slots) (hKm : zgood K) (hKs : ∀ y' as S r, K y' as S = some r → zMet l s0 b0 L xs b2 ys D DA (M y') as S r d)
    (hau : zaux M y pc ins n a b q9) (hdg : decode y.2.1 pc = .ok (ins, n)) (hkm : ∀ p l t S1, k p l t S1 = some r → zmono S1 r.2)
    (h : zstep K y.2.2.2.2 (zrt y) ins n a b q9 pc als ast S k = some r) (hk : ∀ pc' als' ast' S', k pc' als' ast' S' = some r → zSnd p l e R s m args below meth c (vx_MQ below (zQc s0.heap.size b0 L xs b2 ys D DA A0 n0 r) (zXC s0.heap.size b0 L xs b2 ys D DA A0 n0 r) args s (zc r.2 - c0) (zw r.2 - w0) (zfr s0)) s0.heap.size b0 L xs b2 ys D DA y.2.2.1 A0 n0 c0 w0 pc' als' ast' S') : zSnd p l e R s m args below meth c (vx_MQ below (zQc s0.heap.size b0 L xs b2 ys D DA A0 n0 r) (zXC s0.heap.size b0 L xs b2 ys D DA A0 n0 r) args s (zc r.2 - c0) (zw r.2 - w0) (zfr s0)) s0.heap.size b0 L xs b2 ys D DA y.2.2.1 A0 n0 c0 w0 pc als ast S := by
  cases ins with
  | iconst i =>
    obtain ⟨rfl, h1, h2⟩ := hau
    exact zs_iconst hx hb hdg ⟨h1, h2⟩ (hk _ _ _ _ h)
  | bipush i =>
    obtain ⟨rfl, h1, h2⟩ := hau
    exact zs_bipush hx hb hdg ⟨h1, h2⟩ (hk _ _ _ _ h)
  | sipush i =>
    obtain ⟨rfl, h1, h2⟩ := hau
    exact zs_sipush hx hb hdg ⟨h1, h2⟩ (hk _ _ _ _ h)
  | lconst f =>
    obtain ⟨rfl, h1⟩ := hau
    exact zs_lconst hx hb hdg h1 (hk _ _ _ _ h)
  | ldc i =>
    obtain ⟨rfl, h1, h2⟩ := hau
    exact zs_ldc hx hb w0' ws hown hdg h1 h2 (hk _ _ _ _ h)
  | ldc_w i =>
    obtain ⟨rfl, h1, h2⟩ := hau
    exact zs_ldc_w hx hb w0' ws hown hdg h1 h2 (hk _ _ _ _ h)
  | ldc2_w i =>
    obtain ⟨rfl, h1, h2⟩ := hau
    exact zs_ldc2_w hx hb w0' ws hown hdg h1 h2 (hk _ _ _ _ h)
  | aconst_null =>
    obtain rfl : n = 1 := hau
    exact zs_aconst_null hx hb hdg (hk _ _ _ _ h)
  | getstatic i =>
    obtain ⟨rfl, rfl, h2⟩ := hau
    exact zs_getstatic hx hb w0' ws hown hdg h2 (hk _ _ _ _ h)
  | iload_n q =>
    obtain ⟨rfl, h1⟩ := hau
    simp only [zstep] at h
    obtain ⟨v, hl, h⟩ := zld_inv h
    exact zs_iload_n hx hb hdg h1 hl (hk _ _ _ _ h)
  | iload q =>
    obtain ⟨rfl, h1⟩ := hau
    simp only [zstep] at h
    obtain ⟨v, hl, h⟩ := zld_inv h
    exact zs_iload hx hb hdg h1 hl (hk _ _ _ _ h)
  | lload_n q =>
    obtain ⟨rfl, h1⟩ := hau
    simp only [zstep] at h
    obtain ⟨v, hl, h⟩ := zldl_inv h
    exact zs_lload_n hx hb hdg h1 hl (hk _ _ _ _ h)
  | lload q =>
    obtain ⟨rfl, h1⟩ := hau
    simp only [zstep] at h
    obtain ⟨v, hl, h⟩ := zldl_inv h
    exact zs_lload hx hb hdg h1 hl (hk _ _ _ _ h)
  | aload_n q =>
    obtain ⟨rfl, h1⟩ := hau
    simp only [zstep] at h
    obtain ⟨v, hl, h⟩ := zlda_inv h
    exact zs_aload_n hx hb hdg h1 hl (hk _ _ _ _ h)
  | aload q =>
    obtain ⟨rfl, h1⟩ := hau
    simp only [zstep] at h
    obtain ⟨v, hl, h⟩ := zlda_inv h
    exact zs_aload hx hb hdg h1 hl (hk _ _ _ _ h)
  | istore_n q =>
    obtain ⟨rfl, h1, h2⟩ := hau
    simp only [zstep] at h
    obtain ⟨v, t, rfl, h⟩ := zsti_inv h
    exact zs_istore_n hx hb hdg h1 h2 (hk _ _ _ _ h)
  | istore q =>
    obtain ⟨rfl, h1, h2⟩ := hau
    simp only [zstep] at h
    obtain ⟨v, t, rfl, h⟩ := zsti_inv h
    exact zs_istore hx hb hdg h1 h2 (hk _ _ _ _ h)
  | lstore_n q =>
    obtain ⟨rfl, h1, h2⟩ := hau
    simp only [zstep] at h
    obtain ⟨v, t, rfl, h⟩ := zstl_inv h
    exact zs_lstore_n hx hb hdg h1 h2 (hk _ _ _ _ h)
  | lstore q =>
    obtain ⟨rfl, h1, h2⟩ := hau
    simp only [zstep] at h
    obtain ⟨v, t, rfl, h⟩ := zstl_inv h
    exact zs_lstore hx hb hdg h1 h2 (hk _ _ _ _ h)
  | astore_n q =>
    obtain ⟨rfl, h1, h2⟩ := hau
    simp only [zstep] at h
    obtain ⟨v, t, rfl, h⟩ := zsta_inv h
    exact zs_astore_n hx hb hdg h1 h2 (hk _ _ _ _ h)
  | astore q =>
    obtain ⟨rfl, h1, h2⟩ := hau
    simp only [zstep] at h
    obtain ⟨v, t, rfl, h⟩ := zsta_inv h
    exact zs_astore hx hb hdg h1 h2 (hk _ _ _ _ h)
  | iinc q d9 =>
    obtain ⟨rfl, h1, h2, h3⟩ := hau
    simp only [zstep] at h
    split at h
    · rename_i hl
      exact zs_iinc hx hb hdg h1 h2 h3 hl (hk _ _ _ _ h)
    · cases h
  | iadd =>
    obtain rfl : n = 1 := hau
    simp only [zstep] at h
    obtain ⟨x, z, t, rfl, h⟩ := zii_inv h
    exact zs_iadd hx hb hdg (hk _ _ _ _ h)
  | isub =>
    obtain rfl : n = 1 := hau
    simp only [zstep] at h
    obtain ⟨x, z, t, rfl, h⟩ := zii_inv h
    exact zs_isub hx hb hdg (hk _ _ _ _ h)
  | imul =>
    obtain rfl : n = 1 := hau
    simp only [zstep] at h
    obtain ⟨x, z, t, rfl, h⟩ := zii_inv h
    exact zs_imul hx hb hdg (hk _ _ _ _ h)
  | iand =>
    obtain rfl : n = 1 := hau
    simp only [zstep] at h
    obtain ⟨x, z, t, rfl, h⟩ := zii_inv h
    exact zs_iand hx hb hdg (hk _ _ _ _ h)
  | ior =>
    obtain rfl : n = 1 := hau
    simp only [zstep] at h
    obtain ⟨x, z, t, rfl, h⟩ := zii_inv h
    exact zs_ior hx hb hdg (hk _ _ _ _ h)
  | ixor =>
    obtain rfl : n = 1 := hau
    simp only [zstep] at h
    obtain ⟨x, z, t, rfl, h⟩ := zii_inv h
    exact zs_ixor hx hb hdg (hk _ _ _ _ h)
  | ishl =>
    obtain rfl : n = 1 := hau
    simp only [zstep] at h
    obtain ⟨x, z, t, rfl, h⟩ := zii_inv h
    exact zs_ishl hx hb hdg (hk _ _ _ _ h)
  | ishr =>
    obtain rfl : n = 1 := hau
    simp only [zstep] at h
    obtain ⟨x, z, t, rfl, h⟩ := zii_inv h
    exact zs_ishr hx hb hdg (hk _ _ _ _ h)
  | iushr =>
    obtain rfl : n = 1 := hau
    simp only [zstep] at h
    obtain ⟨x, z, t, rfl, h⟩ := zii_inv h
    exact zs_iushr hx hb hdg (hk _ _ _ _ h)
  | ladd =>
    obtain rfl : n = 1 := hau
    simp only [zstep] at h
    obtain ⟨x, z, t, rfl, h⟩ := zll_inv h
    exact zs_ladd hx hb hdg (hk _ _ _ _ h)
  | lsub =>
    obtain rfl : n = 1 := hau
    simp only [zstep] at h
    obtain ⟨x, z, t, rfl, h⟩ := zll_inv h
    exact zs_lsub hx hb hdg (hk _ _ _ _ h)
  | lmul =>
    obtain rfl : n = 1 := hau
    simp only [zstep] at h
    obtain ⟨x, z, t, rfl, h⟩ := zll_inv h
    exact zs_lmul hx hb hdg (hk _ _ _ _ h)
  | land =>
    obtain rfl : n = 1 := hau
    simp only [zstep] at h
    obtain ⟨x, z, t, rfl, h⟩ := zll_inv h
    exact zs_land hx hb hdg (hk _ _ _ _ h)
  | lor =>
    obtain rfl : n = 1 := hau
    simp only [zstep] at h
    obtain ⟨x, z, t, rfl, h⟩ := zll_inv h
    exact zs_lor hx hb hdg (hk _ _ _ _ h)
  | lxor =>
    obtain rfl : n = 1 := hau
    simp only [zstep] at h
    obtain ⟨x, z, t, rfl, h⟩ := zll_inv h
    exact zs_lxor hx hb hdg (hk _ _ _ _ h)
  | lshl =>
    obtain rfl : n = 1 := hau
    simp only [zstep] at h
    obtain ⟨x, z, t, rfl, h⟩ := zli_inv h
    exact zs_lshl hx hb hdg (hk _ _ _ _ h)
  | lshr =>
    obtain rfl : n = 1 := hau
    simp only [zstep] at h
    obtain ⟨x, z, t, rfl, h⟩ := zli_inv h
    exact zs_lshr hx hb hdg (hk _ _ _ _ h)
  | lushr =>
    obtain rfl : n = 1 := hau
    simp only [zstep] at h
    obtain ⟨x, z, t, rfl, h⟩ := zli_inv h
    exact zs_lushr hx hb hdg (hk _ _ _ _ h)
  | i2l =>
    obtain rfl : n = 1 := hau
    simp only [zstep] at h
    obtain ⟨x, t, rfl, h⟩ := zone_inv h
    exact zs_i2l hx hb hdg (hk _ _ _ _ h)
  | i2c =>
    obtain rfl : n = 1 := hau
    simp only [zstep] at h
    obtain ⟨x, t, rfl, h⟩ := zone_inv h
    exact zs_i2c hx hb hdg (hk _ _ _ _ h)
  | i2b =>
    obtain rfl : n = 1 := hau
    simp only [zstep] at h
    obtain ⟨x, t, rfl, h⟩ := zone_inv h
    exact zs_i2b hx hb hdg (hk _ _ _ _ h)
  | l2i =>
    obtain rfl : n = 1 := hau
    simp only [zstep] at h
    obtain ⟨x, t, rfl, h⟩ := zoneL_inv h
    exact zs_l2i hx hb hdg (hk _ _ _ _ h)
  | idiv =>
    obtain rfl : n = 1 := hau
    simp only [zstep] at h
    split at h
    · obtain ⟨hy, h⟩ := zchk_inv h
      exact zs_idiv hx hb hdg hy (hk _ _ _ _ h)
    · cases h
  | irem =>
    obtain rfl : n = 1 := hau
    simp only [zstep] at h
    split at h
    · obtain ⟨hy, h⟩ := zchk_inv h
      exact zs_irem hx hb hdg hy (hk _ _ _ _ h)
    · cases h
  | lcmp =>
    obtain rfl : n = 1 := hau
    simp only [zstep] at h
    split at h
    · exact zs_lcmp hx hb hdg (hk _ _ _ _ h)
    · cases h
  | dup =>
    obtain rfl : n = 1 := hau
    simp only [zstep] at h
    split at h
    · exact zs_dup_vi hx hb hdg (hk _ _ _ _ h)
    · exact zs_dup_vr hx hb hdg (hk _ _ _ _ h)
    · cases h
  | dup2 =>
    obtain rfl : n = 1 := hau
    simp only [zstep] at h
    split at h
    · exact zs_dup2_ir hx hb hdg (hk _ _ _ _ h)
    · exact zs_dup2_l hx hb hdg (hk _ _ _ _ h)
    · cases h
  | pop =>
    obtain rfl : n = 1 := hau
    simp only [zstep] at h
    split at h
    · exact zs_pop_i hx hb hdg (hk _ _ _ _ h)
    · exact zs_pop_r hx hb hdg (hk _ _ _ _ h)
    · cases h
  | goto o =>
    obtain ⟨rfl, h1⟩ := hau
    exact zs_goto hx hb hdg h1 (hk _ _ _ _ h)
  | ifCond cd o =>
    obtain ⟨rfl, h1⟩ := hau
    simp only [zstep] at h
    split at h
    · cases cd
      · simp only [zif] at h
        exact zs_if_eq hx hb hdg h1 (fun w => hk _ _ _ _ (by rw [if_pos w] at h; exact h)) (fun w => hk _ _ _ _ (by rw [if_neg w] at h; exact h))
      · simp only [zif] at h
        exact zs_if_ne hx hb hdg h1 (fun w => hk _ _ _ _ (by rw [if_neg w] at h; exact h)) (fun w => hk _ _ _ _ (by rw [if_pos w] at h; exact h))
      · simp only [zif] at h
        exact zs_if_lt hx hb hdg h1 (fun w => hk _ _ _ _ (by rw [if_pos w] at h; exact h)) (fun w => hk _ _ _ _ (by rw [if_neg w] at h; exact h))
      · simp only [zif] at h
        exact zs_if_ge hx hb hdg h1 (fun w => hk _ _ _ _ (by rw [if_neg w] at h; exact h)) (fun w => hk _ _ _ _ (by rw [if_pos w] at h; exact h))
      · simp only [zif] at h
        exact zs_if_gt hx hb hdg h1 (fun w => hk _ _ _ _ (by rw [if_pos w] at h; exact h)) (fun w => hk _ _ _ _ (by rw [if_neg w] at h; exact h))
      · simp only [zif] at h
        exact zs_if_le hx hb hdg h1 (fun w => hk _ _ _ _ (by rw [if_neg w] at h; exact h)) (fun w => hk _ _ _ _ (by rw [if_pos w] at h; exact h))
    · cases h
  | if_icmp cd o =>
    obtain ⟨rfl, h1⟩ := hau
    simp only [zstep] at h
    split at h
    · cases cd
      · simp only [zif] at h
        exact zs_icmp_eq hx hb hdg h1 (fun w => hk _ _ _ _ (by rw [if_pos w] at h; exact h)) (fun w => hk _ _ _ _ (by rw [if_neg w] at h; exact h))
      · simp only [zif] at h
        exact zs_icmp_ne hx hb hdg h1 (fun w => hk _ _ _ _ (by rw [if_neg w] at h; exact h)) (fun w => hk _ _ _ _ (by rw [if_pos w] at h; exact h))
      · simp only [zif] at h
        exact zs_icmp_lt hx hb hdg h1 (fun w => hk _ _ _ _ (by rw [if_pos w] at h; exact h)) (fun w => hk _ _ _ _ (by rw [if_neg w] at h; exact h))
      · simp only [zif] at h
        exact zs_icmp_ge hx hb hdg h1 (fun w => hk _ _ _ _ (by rw [if_neg w] at h; exact h)) (fun w => hk _ _ _ _ (by rw [if_pos w] at h; exact h))
      · simp only [zif] at h
        exact zs_icmp_gt hx hb hdg h1 (fun w => hk _ _ _ _ (by rw [if_pos w] at h; exact h)) (fun w => hk _ _ _ _ (by rw [if_neg w] at h; exact h))
      · simp only [zif] at h
        exact zs_icmp_le hx hb hdg h1 (fun w => hk _ _ _ _ (by rw [if_neg w] at h; exact h)) (fun w => hk _ _ _ _ (by rw [if_pos w] at h; exact h))
    · cases h
  | ifnonnull o =>
    obtain ⟨rfl, h1⟩ := hau
    simp only [zstep] at h
    split at h
    · exact zs_ifnonnull hx hb hdg h1 (fun w => hk _ _ _ _ (by rw [if_neg w] at h; exact h)) (fun w => hk _ _ _ _ (by rw [if_pos w] at h; exact h))
    · cases h
  | if_acmp cd o =>
    obtain ⟨rfl, h1⟩ := hau
    cases cd with
    | eq => cases h
    | ne =>
      simp only [zstep] at h
      split at h
      · obtain ⟨hq, h⟩ := zchk_inv h
        exact zs_acmp_ne hx hb hdg h1 hq (fun w => hk _ _ _ _ (by rw [if_neg w] at h; exact h)) (fun w => hk _ _ _ _ (by rw [if_pos w] at h; exact h))
      · cases h
  | tableswitch d9 lo hi offs =>
    obtain ⟨h1, h2, h3⟩ := hau
    simp only [zstep] at h
    split at h
    · exact zs_table hx hb hdg h1 h2 h3 (hk _ _ _ _ h)
    · cases h
  | lookupswitch d9 ps =>
    obtain ⟨h1, h2, h3⟩ := hau
    simp only [zstep] at h
    split at h
    · exact zs_look hx hb hdg h1 h2 h3 (hk _ _ _ _ h)
    · cases h
  | iaload =>
    obtain rfl : n = 1 := hau
    simp only [zstep] at h
    obtain ⟨j, x, rr, rfl, g1, g2, g3, h⟩ := zald_inv h
    exact zs_iaload hx hb w0' ws hown hdg g1 g2 g3 (hk _ _ _ _ h)
  | baload =>
    obtain rfl : n = 1 := hau
    simp only [zstep] at h
    obtain ⟨j, x, rr, rfl, g1, g2, g3, h⟩ := zald_inv h
    exact zs_baload hx hb w0' ws hown hdg g1 g2 g3 (hk _ _ _ _ h)
  | laload =>
    obtain rfl : n = 1 := hau
    simp only [zstep] at h
    obtain ⟨j, x, rr, rfl, g1, g2, g3, h⟩ := zald_inv h
    exact zs_laload hx hb w0' ws hown hdg (g1.elim id id) g2 g3 (hk _ _ _ _ h)
  | caload =>
    obtain rfl : n = 1 := hau
    simp only [zstep] at h
    obtain ⟨j, x, rr, rfl, g1, g2, g3, h⟩ := zald_inv h
    exact zs_caload hx hb w0' ws hown hdg (g1.elim id id) g2 g3 (hk _ _ _ _ h)
  | aaload =>
    obtain ⟨rfl, h1⟩ := hau
    simp only [zstep] at h
    obtain ⟨j, x, rr, rfl, g1, g2, g3, h⟩ := zald_inv h
    exact zs_aaload hx hb w0' ws hown hdg h1 (g1.elim id id) g2 g3 (hk _ _ _ _ h)
  | iastore =>
    obtain rfl : n = 1 := hau
    simp only [zstep] at h
    split at h
    · obtain ⟨⟨g1, g2, g3⟩, h⟩ := zchk_inv h
      exact zs_iastore hx hb w0' ws hown hdg g1 g2 g3 (hk _ _ _ _ h)
    · cases h
  | lastore =>
    obtain rfl : n = 1 := hau
    simp only [zstep] at h
    split at h
    · obtain ⟨⟨g1, g2, g3⟩, h⟩ := zchk_inv h
      exact zs_lastore hx hb w0' ws hown hdg g1 g2 g3 (hk _ _ _ _ h)
    · cases h
  | castore =>
    obtain rfl : n = 1 := hau
    simp only [zstep] at h
    split at h
    · obtain ⟨⟨g1, g2, g3⟩, h⟩ := zchk_inv h
      exact zs_castore hx hb w0' ws hown hdg g1 g2 g3 (hk _ _ _ _ h)
    · cases h
  | bastore =>
    obtain rfl : n = 1 := hau
    simp only [zstep] at h
    split at h
    · split at h
      · obtain ⟨⟨g1, g2, g3⟩, h⟩ := zchk_inv h
        exact zs_bastore3 hx hb w0' ws hown hdg g1 g2 g3 (hk _ _ _ _ h)
      · obtain ⟨⟨g1, g2, g3, g4, g5⟩, h⟩ := zchk_inv h
        exact zs_bastore4 hx hb w0' ws hown hdg g1 g2 g3 g4 g5 (hk _ _ _ _ h)
    · cases h
  | aastore =>
    obtain ⟨rfl, h1, h2, ci, h3, rfl, h4⟩ := hau
    simp only [zstep] at h
    split at h
    · obtain ⟨⟨g1, g2, g3, g4⟩, h⟩ := zchk_inv h
      exact zs_aastore hx hb w0' ws hown hdg ⟨h1, h2⟩ h3 h4 g1 g2 g3 g4 (hk _ _ _ _ h)
    · cases h
  | arraylength =>
    obtain rfl : n = 1 := hau
    simp only [zstep] at h
    split at h
    · obtain ⟨g1, h⟩ := zchk_inv h
      exact zs_arraylength hx hb w0' ws hown hdg g1 (hk _ _ _ _ h)
    · cases h
  | getfield i =>
    obtain ⟨rfl, h1, h2, h3, h4⟩ := hau
    simp only [zstep] at h
    split at h
    · obtain ⟨g1, h⟩ := zchk_inv h
      exact zs_getfield hx hb w0' ws hown hdg h1 h2 h3 h4 g1 (hk _ _ _ _ h)
    · cases h
  | putfield i =>
    obtain ⟨rfl, h1, h2, h3, h4, h5⟩ := hau
    simp only [zstep] at h
    split at h
    · obtain ⟨g1, h⟩ := zchk_inv h
      obtain ⟨z, hz, h⟩ := zputf_inv h
      exact zs_putfield hx hb w0' ws hown hdg h1 h2 h3 h4 g1 (h5.imp id fun w => ⟨hname w.1, w.2⟩) hz (hk _ _ _ _ h)
    · cases h
  | new i =>
    obtain ⟨rfl, hau⟩ := hau
    simp only [zstep] at h
    split at h
    · obtain ⟨h1, rfl, h3, h4, h5⟩ := hau
      exact zs_new hx hb w0' ws hown hdg h1 h3 h4 h5 (by have := (hkm _ _ _ _ h).2.1; rw [zc_alloc] at this; omega) (by have := (hkm _ _ _ _ h).2.2.1; rw [zw_alloc] at this; omega) (hk _ _ _ _ h)
    · rename_i hq
      obtain ⟨hc, h⟩ := bif_inv h
      cases h
      have hau2 : a < 3 ∧ y.1.cls = RX12 ∧ y.2.2.2.2 = [] ∧ zthrows y.2.1 pc a := by
        revert hau
        split
        · exact absurd rfl hq
        · exact id
      obtain ⟨h1, h2, h3, h4⟩ := hau2
      rw [h2] at hown
      rcases htab with htab | ⟨-, ov, ho⟩
      · exact zs_throw hx hb w0' ws hown hml h1 h4 (zno htab h3) hlocks (Nat.le_of_ble_eq_true hc) (by omega) (by omega) hRc hRs
      · cases ho
  | newarray t =>
    obtain ⟨rfl, h1, h2⟩ := hau
    simp only [zstep] at h
    split at h
    · obtain ⟨⟨g1, g2⟩, h⟩ := zchk_inv h
      cases t with
      | int => exact zs_newarray_int hx hb w0' ws hown hdg h2 g1 g2 (by have := (hkm _ _ _ _ h).2.1; rw [zc_alloc] at this; omega) (by have := (hkm _ _ _ _ h).2.2.1; rw [zw_alloc] at this; omega) (hk _ _ _ _ h)
      | long => exact zs_newarray_long hx hb w0' ws hown hdg h2 g1 g2 (by have := (hkm _ _ _ _ h).2.1; rw [zc_alloc] at this; omega) (by have := (hkm _ _ _ _ h).2.2.1; rw [zw_alloc] at this; omega) (hk _ _ _ _ h)
      | char => exact zs_newarray_char hx hb w0' ws hown hdg h2 g1 g2 (by have := (hkm _ _ _ _ h).2.1; rw [zc_alloc] at this; omega) (by have := (hkm _ _ _ _ h).2.2.1; rw [zw_alloc] at this; omega) (hk _ _ _ _ h)
      | byte => exact zs_newarray_byte hx hb w0' ws hown hdg h2 g1 g2 (by have := (hkm _ _ _ _ h).2.1; rw [zc_alloc] at this; omega) (by have := (hkm _ _ _ _ h).2.2.1; rw [zw_alloc] at this; omega) (hk _ _ _ _ h)
      | boolean => exact zs_newarray_boolean hx hb w0' ws hown hdg h2 g1 g2 (by have := (hkm _ _ _ _ h).2.1; rw [zc_alloc] at this; omega) (by have := (hkm _ _ _ _ h).2.2.1; rw [zw_alloc] at this; omega) (hk _ _ _ _ h)
      | _ => exact absurd h1 (by decide)
    · cases h
  | anewarray i =>
    obtain ⟨rfl, h1, h2, C, h3, h4, h5⟩ := hau
    simp only [zstep] at h
    split at h
    · obtain ⟨⟨g1, g2⟩, h⟩ := zchk_inv h
      exact zs_anewarray hx hb w0' ws hown hdg ⟨h1, h2⟩ h3 h4 h5 g1 g2 (by have := (hkm _ _ _ _ h).2.1; rw [zc_alloc] at this; omega) (by have := (hkm _ _ _ _ h).2.2.1; rw [zw_alloc] at this; omega) (hk _ _ _ _ h)
    · cases h
  | multianewarray i k9 =>
    obtain ⟨rfl, rfl, rfl, rfl, h4, h5, h6⟩ := hau
    simp only [zstep] at h
    split at h
    · obtain ⟨g1, h⟩ := zchk_inv h
      exact zs_multianewarray hx hb w0' ws hown hdg h4 h5 (zAOA ws.1 (w0'.2.1 _ h5)) h6 g1 (by have := (hkm _ _ _ _ h).2.1; rw [zc_multi] at this; omega) (by have := (hkm _ _ _ _ h).2.2.1; rw [zw_multi] at this; omega) (hk _ _ _ _ h)
    · cases h
  | invokestatic i =>
    obtain ⟨rfl, hau⟩ := hau
    simp only [zstep] at h
    split at h
    · obtain ⟨h1, h2, h3, hau⟩ := hau
      obtain ⟨hc, h⟩ := bif_inv h
      simp only [Bool.and_eq_true, Nat.ble_eq] at hc
      rcases zcall_inv h with ⟨v, S1, e9, h⟩ | ⟨x, S1, e9, h⟩
      · have hm1 := hKm _ _ _ _ _ e9
        have hm2 := hkm _ _ _ _ h
        exact zs_end hx hb w0' hnc ws hown htab hlocks hho (zr_callS hx hb w0' ws hown hml hdg (zcok_of h3 hRf hRl) (hKs _ _ _ _ e9) hau h1 h2 hc.1 hc.2 (by have := hm2.2.1; dsimp only; omega) (by have := hm2.2.2.1; dsimp only; omega) hm1) hm1 (Or.inl ⟨v, rfl, hk _ _ _ _ h⟩)
      · have hm1 := hKm _ _ _ _ _ e9
        have hm2 : zmono S1 r.2 := by
          rcases zthr_inv h with ⟨-, rfl⟩ | ⟨hh, -, h⟩
          · exact zmono.rf _
          · exact hkm _ _ _ _ h
        exact zs_end hx hb w0' hnc ws hown htab hlocks hho (zr_callS hx hb w0' ws hown hml hdg (zcok_of h3 hRf hRl) (hKs _ _ _ _ e9) hau h1 h2 hc.1 hc.2 (by have := hm2.2.1; dsimp only; omega) (by have := hm2.2.2.1; dsimp only; omega) hm1) hm1 (Or.inr ⟨x, rfl, by
          rcases zthr_inv h with ⟨h0, rfl⟩ | ⟨hh, hcc, h⟩
          · exact Or.inl ⟨h0, rfl⟩
          · exact Or.inr ⟨hh, hcc, hk _ _ _ _ h⟩⟩)
    · obtain ⟨h1, h2, h3, h4, host, h5⟩ := hau
      obtain ⟨hc, h⟩ := bif_inv h
      simp only [Bool.and_eq_true, Nat.ble_eq] at hc
      obtain ⟨v, S1, e9, h⟩ := zretn_inv h
      have hm1 := hKm _ _ _ _ _ e9
      have hm2 := hkm _ _ _ _ h
      exact zs_end hx hb w0' hnc ws hown htab hlocks hho (zr_callSN hx hb w0' ws hown hml hdg (zcok_of h3 hRf hRl) h4 (hKs _ _ _ _ e9) h5 h1 h2 hc.1 hc.2 (by have := hm2.2.1; omega) (by have := hm2.2.2.1; omega) hm1) hm1 (Or.inl ⟨v, rfl, hk _ _ _ _ h⟩)
    · obtain ⟨x, z, t, rfl, hc, h⟩ := zmm_inv h
      obtain ⟨h1, h2, h3, h4⟩ := hau
      exact zs_max hx hb w0' ws hown hml hdg h1 h2 h3 h4 hc (by omega) (by omega) (by have := (hkm _ _ _ _ h).2.1; omega) (by have := (hkm _ _ _ _ h).2.2.1; omega) (hk _ _ _ _ h)
    · obtain ⟨x, z, t, rfl, hc, h⟩ := zmm_inv h
      obtain ⟨h1, h2, h3, h4⟩ := hau
      exact zs_min hx hb w0' ws hown hml hdg h1 h2 h3 h4 hc (by omega) (by omega) (by have := (hkm _ _ _ _ h).2.1; omega) (by have := (hkm _ _ _ _ h).2.2.1; omega) (hk _ _ _ _ h)
    · rename_i q0 q1 q2 q3
      have hau2 : Cond.methodLink y.1.cls i Lib.MathLoose.min_long.x ∈ lw_tbl ∧ Cond.static Lib.MathLoose.min_long.x ∈ lw_tbl ∧ Cond.initialized "java/lang/Math" ∈ lw_tbl ∧ Cond.code Lib.MathLoose.min_long.x Lib.MathLoose.min_long.code 4 (some .long) ∈ lw_tbl := by
        revert hau
        split
        · exact absurd rfl q0
        · exact absurd rfl q1
        · exact absurd rfl q2
        · exact absurd rfl q3
        · exact id
      obtain ⟨x, z, t, rfl, hc, h⟩ := zml_inv h
      obtain ⟨h1, h2, h3, h4⟩ := hau2
      exact zs_minl hx hb w0' ws hown hml hdg h1 h2 h3 h4 hc (by omega) (by omega) (by have := (hkm _ _ _ _ h).2.1; omega) (by have := (hkm _ _ _ _ h).2.2.1; omega) (hk _ _ _ _ h)
  | invokevirtual i =>
    obtain ⟨rfl, h1, h2, h3, h4, h5, h6, h7⟩ := hau
    simp only [zstep] at h
    split at h
    · rename_i x rr hd9
      obtain ⟨hc, h⟩ := bif_inv h
      simp only [Bool.and_eq_true, Nat.ble_eq] at hc
      obtain ⟨hkx, h⟩ := zchk_inv h
      rcases zcall_inv h with ⟨v, S1, e9, h⟩ | ⟨x9, S1, e9, h⟩
      · have hm1 := hKm _ _ _ _ _ e9
        have hm2 := hkm _ _ _ _ h
        exact zs_end hx hb w0' hnc ws hown htab hlocks hho (zr_callV hx hb w0' ws hown hml hdg (zcok_of h7 hRf hRl) h2 h1 hkx hd9 (hKs _ _ _ _ e9) h3 h4 h5 h6 hc.1 hc.2 (by have := hm2.2.1; dsimp only; omega) (by have := hm2.2.2.1; dsimp only; omega) hm1) hm1 (Or.inl ⟨v, rfl, by rw [zdrop1 hd9]; exact hk _ _ _ _ h⟩)
      · have hm1 := hKm _ _ _ _ _ e9
        have hm2 : zmono S1 r.2 := by
          rcases zthr_inv h with ⟨-, rfl⟩ | ⟨hh, -, h⟩
          · exact zmono.rf _
          · exact hkm _ _ _ _ h
        exact zs_end hx hb w0' hnc ws hown htab hlocks hho (zr_callV hx hb w0' ws hown hml hdg (zcok_of h7 hRf hRl) h2 h1 hkx hd9 (hKs _ _ _ _ e9) h3 h4 h5 h6 hc.1 hc.2 (by have := hm2.2.1; dsimp only; omega) (by have := hm2.2.2.1; dsimp only; omega) hm1) hm1 (Or.inr ⟨x9, rfl, by
          rcases zthr_inv h with ⟨h0, rfl⟩ | ⟨hh, hcc, h⟩
          · exact Or.inl ⟨h0, rfl⟩
          · exact Or.inr ⟨hh, hcc, hk _ _ _ _ h⟩⟩)
    · cases h
  | invokespecial i =>
    obtain ⟨rfl, hau⟩ := hau
    simp only [zstep] at h
    split at h
    · split at h
      · obtain ⟨hc, h⟩ := bif_inv h
        obtain ⟨hq, h⟩ := zchk_inv h
        obtain ⟨h1, h2, h3⟩ := hau
        exact zs_objInit hx hb w0' ws hown hdg hml h1 h2 h3 hq (Nat.le_of_ble_eq_true hc) (by omega) (by omega) (hk _ _ _ _ h)
      · cases h
    · rename_i hq
      have hau2 : (M a).2.2.2.2 = [] ∧ (M a).2.2.2.1 = none ∧ (M a).1.name = "<init>" ∧ (Cond.methodLink y.1.cls i (M a).1 ∈ lw_tbl ∨ ∃ host, Cond.methodLinkNest y.1.cls i (M a).1 host ∈ lw_tbl) ∧ Cond.instanceMethod (M a).1 ∈ lw_tbl ∧ Cond.initialized (M a).1.cls ∈ lw_tbl ∧ zcallee (M a) b := by
        revert hau
        split
        · exact absurd rfl hq
        · exact id
      obtain ⟨h1, h2, h3, h4, h5, h6, h7⟩ := hau2
      split at h
      · rename_i x rr hd9
        obtain ⟨hc, h⟩ := bif_inv h
        simp only [Bool.and_eq_true, Nat.ble_eq] at hc
        obtain ⟨hx1, h⟩ := zchk_inv h
        obtain ⟨v, S1, e9, h⟩ := zretn_inv h
        obtain ⟨rfl, h⟩ := zvoid_inv h
        · have hm1 := hKm _ _ _ _ _ e9
          have hm2 := hkm _ _ _ _ h
          exact zs_end hx hb w0' hnc ws hown htab hlocks hho (zr_callI hx hb w0' ws hown hml hdg (zcok_of h7 hRf hRl) h1 h2 h3 hx1 hd9 (hKs _ _ _ _ e9) h4 h5 h6 hc.1 hc.2 (by have := hm2.2.1; omega) (by have := hm2.2.2.1; omega) hm1) hm1 (Or.inl ⟨none, rfl, by rw [zdrop1 hd9]; exact hk _ _ _ _ h⟩)
      · cases h
  | ireturn =>
    obtain ⟨rfl, ty, h1, h2⟩ := hau
    simp only [zstep] at h
    split at h
    · obtain ⟨h, g1, g2, g3⟩ := zrng_inv h
      cases h
      have hrt : zrt y = zcode ty := by unfold zrt; rw [h1]
      rw [hrt] at g1 g2 g3
      exact zs_ireturn hx hb hdg (hret.trans h1) hlocks h2 ⟨g1, g2, g3⟩
    · cases h
  | lreturn =>
    obtain ⟨rfl, h1⟩ := hau
    simp only [zstep] at h
    split at h
    · cases h
      exact zs_lreturn hx hb hdg (hret.trans h1) hlocks
    · cases h
  | areturn =>
    obtain ⟨rfl, ty, h1, h2⟩ := hau
    simp only [zstep] at h
    split at h
    · cases h
      exact zs_areturn hx hb hdg (hret.trans h1) h2 hlocks
    · cases h
  | return_ =>
    obtain ⟨rfl, h1⟩ := hau
    simp only [zstep] at h
    split at h
    · cases h
      exact zs_return hx hb hdg (hret.trans h1) hlocks
    · cases h
  | _ => cases (show (none : zR) = some r from h)
end
