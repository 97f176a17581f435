/-! Returns, throws, calls: between the interpreter's call and the machine's. -/
/-- method, bytes, locals, answer's type, handlers (from, to, at, exception's number) -/
abbrev zMi : Type := MethodName × ByteArray × Nat × Option FieldType × List (Nat × Nat × Nat × Nat)
def zX (x : Nat) : String := match x with
  | 0 => "java/lang/IllegalArgumentException"
  | 1 => "java/lang/IllegalStateException"
  | _ => "java/lang/IndexOutOfBoundsException"
def zXi (x : Nat) : Nat := match x with
  | 0 => 70
  | 1 => 72
  | _ => 67
def zXc (x : Nat) : Nat := match x with
  | 0 => 86
  | 1 => 107
  | _ => 201
def zhh (hs : List (Nat × Nat × Nat × Nat)) : List (Nat × Nat × Nat × Nat) := hs.map fun q => (q.1, q.2.1, q.2.2.1, zXi q.2.2.2)
def zcodeW (y : zMi) : Cond := match y.2.2.2.2 with
  | [] => .code y.1 y.2.1 y.2.2.1 y.2.2.2.1
  | q :: qs => .codeWith y.1 y.2.1 y.2.2.1 y.2.2.2.1 (zhh (q :: qs))
def zQv (A : Int → Nat) (n : Nat) (ov : Option zV) (oc : Outcome) : Prop := match ov with
  | none => oc = .returned none
  | some v => ∃ V, oc = .returned (some V) ∧ zR1 A n v V
def zQc (fr b0 L : Nat) (xs : Nat → Int32) (b2 : Nat) (ys : Nat → Int32) (D : va_G) (DA : Nat → ClassId) (A0 : Int → Nat) (n0 : Nat) (r : zO × zS) : Array Value → State → Outcome → State → Prop := fun _ st oc t =>
  ∃ (A : Int → Nat) (ov : Option zV), r.1 = .inl ov ∧ (∀ a : Int, a < n0 → A a = A0 a) ∧ zQv A (zn r.2) ov oc ∧ zH fr b0 L xs b2 ys D DA A r.2 t.heap ∧ va_F (fun q => fr ≤ q) st t
def zXC (fr b0 L : Nat) (xs : Nat → Int32) (b2 : Nat) (ys : Nat → Int32) (D : va_G) (DA : Nat → ClassId) (A0 : Int → Nat) (n0 : Nat) (r : zO × zS) : String → State → State → Prop := fun E st t =>
  ∃ (A : Int → Nat) (x : Nat), r.1 = .inr x ∧ E = zX x ∧ (∀ a : Int, a < n0 → A a = A0 a) ∧ zH fr b0 L xs b2 ys D DA A r.2 t.heap ∧ va_F (fun q => fr ≤ q) st t
def zPc (s0 : State) (b0 L : Nat) (xs : Nat → Int32) (b2 : Nat) (ys : Nat → Int32) (D : va_G) (DA : Nat → ClassId) (A : Int → Nat) (as : List zV) (S : zS) : Array Value → State → Prop := fun av U =>
  ∃ vs : List Value, av = vs.toArray ∧ zRs A (zn S) as vs ∧ zH s0.heap.size b0 L xs b2 ys D DA A S U.heap ∧ zWs s0 U
def zroom (d mc ms : Nat) : Room := { frames := d + 7, cells := mc, slots := ms, locals := 100 * d + 200 }
/-- the call's answer r is the machine's, at depth d -/
def zMet (l : Launch) (s0 : State) (b0 L : Nat) (xs : Nat → Int32) (b2 : Nat) (ys : Nat → Int32) (D : va_G) (DA : Nat → ClassId) (y : zMi) (as : List zV) (S : zS) (r : zO × zS) (d : Nat) : Prop :=
  ∀ A : Int → Nat, vx_Met l y.1 [zcodeW y] (zroom d (zc r.2 - zc S) (zw r.2 - zw S)) (zPc s0 b0 L xs b2 ys D DA A as S) (zQc s0.heap.size b0 L xs b2 ys D DA A (zn S) r) (zXC s0.heap.size b0 L xs b2 ys D DA A (zn S) r) (zc r.2 - zc S) (zw r.2 - zw S) (zfr s0)
theorem zcatch_spec : ∀ (hs : List (Nat × Nat × Nat × Nat)) (pc e h : Nat), zcatch hs pc e = some h → ∃ (pre : List (Nat × Nat × Nat × Nat)) (q : Nat × Nat × Nat × Nat) (suf : List (Nat × Nat × Nat × Nat)), hs = pre ++ q :: suf ∧ (∀ z ∈ pre, (¬ (z.1 ≤ pc ∧ pc < z.2.1)) ∨ z.2.2.2 ≠ e) ∧ q.1 ≤ pc ∧ pc < q.2.1 ∧ q.2.2.2 = e ∧ q.2.2.1 = h
  | [], _, _, _, h => by cases h
  | (f, t, g, x) :: r, pc, e, h, hh => by
    unfold zcatch at hh
    cases hc : (Nat.ble f pc && (Nat.blt pc t && Nat.beq x e)) with
    | true =>
      rw [hc] at hh
      simp only [Bool.and_eq_true, Nat.ble_eq, Nat.blt_eq, Nat.beq_eq] at hc
      exact ⟨[], (f, t, g, x), r, rfl, (fun z hz => (by cases hz)), hc.1, hc.2.1, hc.2.2, Option.some.inj hh⟩
    | false =>
      rw [hc] at hh
      obtain ⟨pre, q, suf, e1, e2, e3⟩ := zcatch_spec r pc e h hh
      refine ⟨(f, t, g, x) :: pre, q, suf, by rw [e1]; rfl, fun z hz => ?_, e3⟩
      rcases List.mem_cons.mp hz with rfl | hz
      · by_cases hw : (f ≤ pc ∧ pc < t) ∧ x = e
        · exfalso
          have : (Nat.ble f pc && (Nat.blt pc t && Nat.beq x e)) = true := by
            simp only [Bool.and_eq_true, Nat.ble_eq, Nat.blt_eq, Nat.beq_eq]
            exact ⟨hw.1.1, hw.1.2, hw.2⟩
          rw [this] at hc
          cases hc
        · by_cases h1 : f ≤ pc ∧ pc < t
          · exact Or.inr fun h2 => hw ⟨h1, h2⟩
          · exact Or.inl h1
      · exact e2 z hz
section
variable {p : Program} {l : Launch} {e : Env} {R : Room} {s s0 : State} {m : MethodId} {args args0 : Array Value} {below : List Frame} {meth : Method} {c : Code} {Q : State → Prop} {cc : ByteArray}
variable {b0 L b2 : Nat} {xs ys : Nat → Int32} {D : va_G} {DA : Nat → ClassId} {nL : Nat} {A0 : Int → Nat} {n0 c0 w0 : Nat} {pc : Nat} {als ast : List zV} {S : zS} {own : String}
theorem zs_ireturn {v : Int} {ty : FieldType} (hx : p.tables.exec = Jvm.exec) (hb : c.code = cc) (hdg : decode cc pc = .ok (.ireturn, 1)) (hr : meth.sig.returnType = some ty) (hlocks : meth.locks = false) (ht : zcode ty = 0 ∨ zcode ty = 2 ∨ zcode ty = 3 ∨ zcode ty = 4)
    (hf : (zcode ty = 2 → 0 ≤ v ∧ v < 65536) ∧ (zcode ty = 3 → -128 ≤ v ∧ v < 128) ∧ (zcode ty = 4 → 0 ≤ v ∧ v ≤ 1)) :
    zSnd p l e R s m args below meth c (vx_MQ below (zQc s0.heap.size b0 L xs b2 ys D DA A0 n0 (.inl (some (vi v)), S)) (zXC s0.heap.size b0 L xs b2 ys D DA A0 n0 (.inl (some (vi v)), S)) args s (zc S - c0) (zw S - w0) (zfr s0)) s0.heap.size b0 L xs b2 ys D DA nL A0 n0 c0 w0 pc als [vi v] S := by
  intro A H ls st locs h1 h2 h3 h4 h5 h6 h7 h8
  obtain ⟨_, st, rfl, ⟨x, rfl, rfl⟩, hp⟩ := zRs_cons h2
  obtain rfl := zRs_nil hp
  have h9 := i32_in x
  have hn := (znar (n := 0) (x := x) rfl ⟨ht, by rcases ht with q | q | q | q <;> rw [q]; exact h9; exact hf.1 q; exact hf.2.1 q; exact hf.2.2 q⟩).1
  exact vx_ret (W.zret hx hb hr hn (fun t ht hW => ⟨A, _, rfl, h5, ⟨_, rfl, x, rfl, rfl⟩, by rw [ht]; exact h3, h4.F ht⟩) h4.2.2 hdg hlocks)
theorem zs_lreturn {v : Int} (hx : p.tables.exec = Jvm.exec) (hb : c.code = cc) (hdg : decode cc pc = .ok (.lreturn, 1)) (hr : meth.sig.returnType = some .long) (hlocks : meth.locks = false) :
    zSnd p l e R s m args below meth c (vx_MQ below (zQc s0.heap.size b0 L xs b2 ys D DA A0 n0 (.inl (some (vl v)), S)) (zXC s0.heap.size b0 L xs b2 ys D DA A0 n0 (.inl (some (vl v)), S)) args s (zc S - c0) (zw S - w0) (zfr s0)) s0.heap.size b0 L xs b2 ys D DA nL A0 n0 c0 w0 pc als [vl v] S := by
  intro A H ls st locs h1 h2 h3 h4 h5 h6 h7 h8
  obtain ⟨_, st, rfl, ⟨x, rfl, rfl⟩, hp⟩ := zRs_cons h2
  obtain rfl := zRs_nil hp
  exact vx_ret (W.lret hx hb hr (fun t ht hW => ⟨A, _, rfl, h5, ⟨_, rfl, x, rfl, rfl⟩, by rw [ht]; exact h3, h4.F ht⟩) h4.2.2 hdg hlocks)
theorem zs_areturn {v : Int} {ty : FieldType} (hx : p.tables.exec = Jvm.exec) (hb : c.code = cc) (hdg : decode cc pc = .ok (.areturn, 1)) (hr : meth.sig.returnType = some ty) (hrt : (∃ n, ty = .object n) ∨ ∃ t, ty = .array t) (hlocks : meth.locks = false) :
    zSnd p l e R s m args below meth c (vx_MQ below (zQc s0.heap.size b0 L xs b2 ys D DA A0 n0 (.inl (some (vr v)), S)) (zXC s0.heap.size b0 L xs b2 ys D DA A0 n0 (.inl (some (vr v)), S)) args s (zc S - c0) (zw S - w0) (zfr s0)) s0.heap.size b0 L xs b2 ys D DA nL A0 n0 c0 w0 pc als [vr v] S := by
  intro A H ls st locs h1 h2 h3 h4 h5 h6 h7 h8
  obtain ⟨V, st, rfl, hV, hp⟩ := zRs_cons h2
  obtain rfl := zRs_nil hp
  have hv : V = .null ∨ ∃ a, V = .ref a := by
    obtain ⟨rfl, -⟩ := hV
    unfold zad
    split
    · exact Or.inl rfl
    · exact Or.inr ⟨_, rfl⟩
  exact vx_ret (W.aret hx hb hr hrt hv (fun t ht hW => ⟨A, _, rfl, h5, ⟨_, rfl, hV⟩, by rw [ht]; exact h3, h4.F ht⟩) h4.2.2 hdg hlocks)
theorem zs_return (hx : p.tables.exec = Jvm.exec) (hb : c.code = cc) (hdg : decode cc pc = .ok (.return_, 1)) (hr : meth.sig.returnType = none) (hlocks : meth.locks = false) :
    zSnd p l e R s m args below meth c (vx_MQ below (zQc s0.heap.size b0 L xs b2 ys D DA A0 n0 (.inl none, S)) (zXC s0.heap.size b0 L xs b2 ys D DA A0 n0 (.inl none, S)) args s (zc S - c0) (zw S - w0) (zfr s0)) s0.heap.size b0 L xs b2 ys D DA nL A0 n0 c0 w0 pc als [] S := by
  intro A H ls st locs h1 h2 h3 h4 h5 h6 h7 h8
  obtain rfl := zRs_nil h2
  exact vx_ret (W.vret hx hb hr (fun t ht hW => ⟨A, _, rfl, h5, rfl, by rw [ht]; exact h3, h4.F ht⟩) h4.2.2 hdg hlocks)
theorem zs_objInit {i : Nat} {x : Int} {t : List zV} (hx : p.tables.exec = Jvm.exec) (hb : c.code = cc) (w0' : zW0 l s0 args0 D DA b0 L xs b2 ys) (ws : zWs s0 s) (hown : s.vm.findClass own = some m.cls) (hdg : decode cc pc = .ok (.invokespecial i, 3)) (hml : c.maxLocals = nL)
    (hlink : Cond.methodLink own i Lib.objectInit ∈ lw_tbl) (hinst : Cond.instanceMethod Lib.objectInit ∈ lw_tbl) (hcode : Cond.code Lib.objectInit ⟨#[0xb1]⟩ 1 none ∈ lw_tbl) (hx0 : x ≠ 0) (hcat : zcat t ≤ 8) (hRf : 1 ≤ R.frames) (hRl : 20 ≤ R.locals)
    (k : zSnd p l e R s m args below meth c Q s0.heap.size b0 L xs b2 ys D DA nL A0 n0 c0 w0 (pc + 3) als t S) : zSnd p l e R s m args below meth c Q s0.heap.size b0 L xs b2 ys D DA nL A0 n0 c0 w0 pc als (vr x :: t) S := by
  intro A H ls st locs h1 h2 h3 h4 h5 h6 h7 h8
  obtain ⟨_, st, rfl, ⟨rfl, g3, g4⟩, hp⟩ := zRs_cons h2
  rw [zrf hx0]
  have hc := zRs_cat hp
  exact W.objInit hx hb hown (w0'.wd ws hlink rfl _) (w0'.wd ws hinst rfl _) (w0'.wd ws hcode rfl _) rfl (by show ls.size = _; rw [hml]; exact h1.2.1) rfl hdg hRf (by show 2 * 0 + _ + 12 ≤ _; omega) (k A H ls st locs h1 hp h3 h4 h5 h6 h7 h8)
/-- behind a call that has returned -/
theorem z_run_ret {A : Int → Nat} {H : Heap} {ls : Array Slot} {st rest : List Value} {locs : List Loc} {ov : Option zV} {S1 : zS} {t : List zV} {av : Array Value} (h1 : zRl A (zn S) als ls nL) (hp : zRs A (zn S) t rest) (h4 : va_S (fun q => s0.heap.size ≤ q) s.heap H locs) (h5 : ∀ a : Int, a < n0 → A a = A0 a) (h6 : n0 ≤ zn S) (h7 : c0 ≤ zc S) (h8 : w0 ≤ zw S) (hm : zmono S S1)
    (hr : vx_Run p l e R s m args below meth c H locs (zc S - c0) (zw S - w0) (zc S1 - zc S) (zw S1 - zw S) (F0 m pc ls st) rest (zQc s0.heap.size b0 L xs b2 ys D DA A (zn S) (.inl ov, S1) av) (zXC s0.heap.size b0 L xs b2 ys D DA A (zn S) (.inl ov, S1)) (zfr s0))
    (k : zSnd p l e R s m args below meth c Q s0.heap.size b0 L xs b2 ys D DA nL A0 n0 c0 w0 (pc + 3) als (zpush ov t) S1) : W p l e R s m args below meth c H locs (zc S - c0) (zw S - w0) Q (F0 m pc ls st) := by
  intro T hT X
  rcases hr T hT X with ⟨v, st₀, t9, T', L9, h0, X', hL, e1, e2, ⟨A', ov', eo, hA', hv, hH, hF⟩, stp⟩ | ⟨q, st₀, t9, T', L9, E, ce, h0, X', hL, e1, e2, ⟨A', x, eo, -⟩, -⟩
  · cases eo
    obtain ⟨k1, k2, k3⟩ := vx_keep (A0 := fun q => s0.heap.size ≤ q) (A1 := fun q => s0.heap.size ≤ q) (free := zfr s0) h0 e1 h4 (fun q _ h => h) (fun q h => h) hL hF
    have ec : zc S - c0 + (zc S1 - zc S) = zc S1 - c0 := by have := hm.2.1; omega
    have ew : zw S - w0 + (zw S1 - zw S) = zw S1 - w0 := by have := hm.2.2.1; omega
    rw [ec, ew] at X'
    have hst : zRs A' (zn S1) (zpush ov t) (v.toList ++ rest) := by
      have hp' := hp.up (A' := A') hm.1 hA'
      cases ov with
      | none =>
        cases (show Outcome.returned v = .returned none from hv)
        exact hp'
      | some w =>
        obtain ⟨V, hV, hV2⟩ := hv
        cases hV
        exact ⟨hV2, hp'⟩
    obtain ⟨t2, a1, b1⟩ := k A' T'.heap ls (v.toList ++ rest) (locs ++ L9) (h1.up hm.1 hA') hst (by rw [e1]; exact hH) k3 (fun a ha => (hA' a (by omega)).trans (h5 a ha)) (by have := hm.1; omega) (by have := hm.2.1; omega) (by have := hm.2.2.1; omega) T' rfl X'
    exact ⟨t2, stp _ a1, b1⟩
  · cases eo
/-- a call runs, as the interpreter says, and leaves what lay k places down the stack -/
def zRunOk (p : Program) (l : Launch) (e : Env) (R : Room) (s : State) (m : MethodId) (args : Array Value) (below : List Frame) (meth : Method) (c : Code) (s0 : State) (b0 L : Nat) (xs : Nat → Int32) (b2 : Nat) (ys : Nat → Int32) (D : va_G) (DA : Nat → ClassId) (nL c0 w0 pc : Nat) (als ast : List zV) (S : zS) (k : Nat) (r : zO × zS) : Prop :=
  ∀ (A : Int → Nat) (H : Heap) (ls : Array Slot) (st : List Value) (locs : List Loc), zRl A (zn S) als ls nL → zRs A (zn S) ast st → zH s0.heap.size b0 L xs b2 ys D DA A S H → va_S (fun q => s0.heap.size ≤ q) s.heap H locs → c0 ≤ zc S → w0 ≤ zw S →
    vx_Run p l e R s m args below meth c H locs (zc S - c0) (zw S - w0) (zc r.2 - zc S) (zw r.2 - zw S) (F0 m pc ls st) (st.drop k) (zQc s0.heap.size b0 L xs b2 ys D DA A (zn S) r #[]) (zXC s0.heap.size b0 L xs b2 ys D DA A (zn S) r) (zfr s0)
theorem zs_ret {k : Nat} {ov : Option zV} {S1 : zS} (hr : zRunOk p l e R s m args below meth c s0 b0 L xs b2 ys D DA nL c0 w0 pc als ast S k (.inl ov, S1)) (hm : zmono S S1)
    (hk : zSnd p l e R s m args below meth c Q s0.heap.size b0 L xs b2 ys D DA nL A0 n0 c0 w0 (pc + 3) als (zpush ov (ast.drop k)) S1) : zSnd p l e R s m args below meth c Q s0.heap.size b0 L xs b2 ys D DA nL A0 n0 c0 w0 pc als ast S := by
  intro A H ls st locs h1 h2 h3 h4 h5 h6 h7 h8
  exact z_run_ret (av := #[]) h1 (zRs_drop k h2) h4 h5 h6 h7 h8 hm (hr A H ls st locs h1 h2 h3 h4 h7 h8) hk
/-- thrown through this frame, that has no table -/
theorem zs_thr {k x : Nat} {S1 : zS} (hr : zRunOk p l e R s m args below meth c s0 b0 L xs b2 ys D DA nL c0 w0 pc als ast S k (.inr x, S1)) (hm : zmono S S1) (hout : ∀ z ∈ c.exceptionTable.toList, False) (hlocks : meth.locks = false) :
    zSnd p l e R s m args below meth c (vx_MQ below (zQc s0.heap.size b0 L xs b2 ys D DA A0 n0 (.inr x, S1)) (zXC s0.heap.size b0 L xs b2 ys D DA A0 n0 (.inr x, S1)) args s (zc S1 - c0) (zw S1 - w0) (zfr s0)) s0.heap.size b0 L xs b2 ys D DA nL A0 n0 c0 w0 pc als ast S := by
  intro A H ls st locs h1 h2 h3 h4 h5 h6 h7 h8 T hT X
  rcases hr A H ls st locs h1 h2 h3 h4 h7 h8 T hT X with ⟨v, st₀, t9, T', L9, h0, X', hL, e1, e2, ⟨A', ov', eo, -⟩, -⟩ | ⟨q, st₀, t9, T', L9, E, ce, h0, X', hL, e1, e2, ⟨A', x', eo, hE, hA', hH, hF⟩, hce, hcv, hcl, stp⟩
  · cases eo
  · cases eo
    obtain ⟨k1, k2, k3⟩ := vx_keep (A0 := fun q => s0.heap.size ≤ q) (A1 := fun q => s0.heap.size ≤ q) (free := zfr s0) h0 e1 h4 (fun q _ h => h) (fun q h => h) hL hF
    have ec : zc S - c0 + (zc S1 - zc S) = zc S1 - c0 := by have := hm.2.1; omega
    have ew : zw S - w0 + (zw S1 - zw S) = zw S1 - w0 := by have := hm.2.2.1; omega
    dsimp only at X'
    rw [ec, ew] at X'
    obtain ⟨t2, a1, b1⟩ := vx_out (Qc := zQc s0.heap.size b0 L xs b2 ys D DA A0 n0 (.inr x, S1)) (XC := zXC s0.heap.size b0 L xs b2 ys D DA A0 n0 (.inr x, S1)) (free := zfr s0) (pc := pc) (ls := ls) (rest := st.drop k) (mc := zc S1 - c0) (ms := zw S1 - w0) (H := T'.heap) (fun z hz => (hout z hz).elim) hlocks (by rw [e1]; exact hce) hcv hcl
      (fun t ht hW => ⟨A', x, rfl, hE, fun a ha => (hA' a (by omega)).trans (h5 a ha), by rw [ht, e1]; exact hH, k3.F ht⟩) k3.2.2 (Nat.le_refl _) (Nat.le_refl _) T' rfl X'
    exact ⟨t2, stp.trans a1, b1⟩
def zNc (s0 : State) : Prop := ∀ x z : Nat, x < 3 → z < 3 → x ≠ z → va_Nc (zX x) (zX z) s0
/-- thrown, and caught here -/
theorem zs_catch {k x hpc : Nat} {S1 : zS} {hs : List (Nat × Nat × Nat × Nat)} (w0' : zW0 l s0 args0 D DA b0 L xs b2 ys) (ws : zWs s0 s) (hnc : zNc s0) (hown : s.vm.findClass own = some m.cls) (hr : zRunOk p l e R s m args below meth c s0 b0 L xs b2 ys D DA nL c0 w0 pc als ast S k (.inr x, S1)) (hm : zmono S S1) (htab : c.exceptionTable.toList = tableOf (zhh hs)) (hc : zcatch hs pc x = some hpc) (hx3 : x < 3) (hs3 : ∀ z ∈ hs, z.2.2.2 < 3)
    (hlink : ∀ x, x < 3 → Cond.classLink own (zXi x) (zX x) ∈ lw_tbl) (hcast : ∀ x, x < 3 → Cond.castable (zX x) (zX x) ∈ lw_tbl)
    (hk : zSnd p l e R s m args below meth c Q s0.heap.size b0 L xs b2 ys D DA nL A0 n0 c0 w0 hpc als [vu] S1) : zSnd p l e R s m args below meth c Q s0.heap.size b0 L xs b2 ys D DA nL A0 n0 c0 w0 pc als ast S := by
  intro A H ls st locs h1 h2 h3 h4 h5 h6 h7 h8 T hT X
  rcases hr A H ls st locs h1 h2 h3 h4 h7 h8 T hT X with ⟨v, st₀, t9, T', L9, h0, X', hL, e1, e2, ⟨A', ov', eo, -⟩, -⟩ | ⟨q, st₀, t9, T', L9, E, ce, h0, X', hL, e1, e2, ⟨A', x', eo, hE, hA', hH, hF⟩, hce, hcv, hcl, stp⟩
  · cases eo
  · cases eo
    obtain ⟨k1, k2, k3⟩ := vx_keep (A0 := fun q => s0.heap.size ≤ q) (A1 := fun q => s0.heap.size ≤ q) (free := zfr s0) h0 e1 h4 (fun q _ h => h) (fun q h => h) hL hF
    have ec : zc S - c0 + (zc S1 - zc S) = zc S1 - c0 := by have := hm.2.1; omega
    have ew : zw S - w0 + (zw S1 - zw S) = zw S1 - w0 := by have := hm.2.2.1; omega
    dsimp only at X'
    rw [ec, ew] at X'
    subst hE
    obtain ⟨pre, g, suf, hsp, hpre, q1, q2, q3, q4⟩ := zcatch_spec hs pc x hpc hc
    have hg3 : g.2.2.2 < 3 := by rw [q3]; exact hx3
    have hsplit : c.exceptionTable.toList = (tableOf (zhh pre)) ++ (⟨g.1, g.2.1, g.2.2.1, zXi g.2.2.2⟩ : ExceptionTableEntry) :: tableOf (zhh suf) := by
      rw [htab, hsp]
      simp [tableOf, zhh]
    have hne : ∀ z, zXi z ≠ 0 := fun z => by unfold zXi; split <;> decide
    obtain ⟨t2, a1, b1⟩ := vx_catch (s := s) (m := m) (H := T'.heap) (locs := locs ++ L9) (own := own) (name := zX x) (E := zX x) (pc := pc) (ls := ls) (rest := st.drop k) (Q := Q) (q := q) hown (tableOf (zhh pre)) _ (tableOf (zhh suf)) hsplit (fun z hz => by
        simp only [tableOf, zhh, List.map_map, List.mem_map] at hz
        obtain ⟨y, hy, rfl⟩ := hz
        rcases hpre y hy with hn | hn
        · refine Or.inl ?_
          show (decide (y.1 ≤ pc) && decide (pc < y.2.1)) = false
          rw [← Bool.decide_and]
          exact decide_eq_false hn
        · have hy3 : y.2.2.2 < 3 := hs3 y (by rw [hsp]; exact List.mem_append_left _ hy)
          exact Or.inr ⟨hne _, zX y.2.2.2, w0'.wd ws (hlink _ hy3) rfl _, va_Nc.moved ws.1.alike (hnc x y.2.2.2 hx3 hy3 (fun w => hn w.symm))⟩)
      (by show (decide (g.1 ≤ pc) && decide (pc < g.2.1)) = true; rw [decide_eq_true q1, decide_eq_true q2]; rfl) (hne _) (by rw [q3]; exact w0'.wd ws (hlink _ hx3) rfl _)
      ((va_Nw.warmC ws.1 (w0'.nw (hcast x hx3) rfl)).use rfl) (by rw [e1]; exact hce) hcv hcl
      (by
        show W p l e R s m args below meth c T'.heap (locs ++ L9) (zc S1 - c0) (zw S1 - w0) Q (F0 m g.2.2.1 ls [.ref q])
        rw [q4]
        exact hk A' T'.heap ls [.ref q] (locs ++ L9) (h1.up hm.1 hA') ⟨⟨q, rfl⟩, trivial⟩ (by rw [e1]; exact hH) k3 (fun a ha => (hA' a (by omega)).trans (h5 a ha)) (by have := hm.1; omega) (by have := hm.2.1; omega) (by have := hm.2.2.1; omega)) T' rfl X'
    exact ⟨t2, stp.trans a1, b1⟩
end
