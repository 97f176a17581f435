/-! A run of the interpreter is a run of the machine; a call by depth is a contract. -/
def zargs : List zV → List zV
  | [] => []
  | .inr (.inl v) :: r => vl v :: vu :: zargs r
  | v :: r => v :: zargs r
noncomputable def zcallE (T : Nat → Nat → zE) (M : Nat → zMi) : Nat → Nat → List zV → zS → zR
  | 0 => fun _ _ _ => none
  | d + 1 => fun y as S => bif Nat.ble (zargs as).length (M y).2.2.1 then zE0 (T y) (zcallE T M d) (M y).2.2.2.2 (zrt (M y)) 0 (zargs as ++ List.replicate ((M y).2.2.1 - (zargs as).length) vu) [] S else none
def zyok (T : Nat → Nat → zE) (M : Nat → zMi) (y : Nat) : Prop := plainName (M y).1.cls = true ∧ zhok (M y) ∧ ∀ pc, (T y pc).1 = .nop ∨ (decode (M y).2.1 pc = .ok ((T y pc).1, (T y pc).2.1) ∧ zaux M (M y) pc (T y pc).1 (T y pc).2.1 (T y pc).2.2.2.1 (T y pc).2.2.2.2.1 (T y pc).2.2.2.2.2)
theorem zgood_call (T : Nat → Nat → zE) (M : Nat → zMi) : ∀ d, zgood (zcallE T M d)
  | 0 => fun y as S o S1 h => by cases h
  | d + 1 => fun y as S o S1 h => by
    simp only [zcallE] at h
    obtain ⟨-, h⟩ := bif_inv h
    obtain ⟨f, hf⟩ := (zE0_iff (zgood_call T M d)).mp h
    exact zrun_mono (zgood_call T M d) f _ _ _ _ _ hf
theorem zargs_len {A : Int → Nat} {n : Nat} : ∀ {as : List zV} {vs : List Value}, zRs A n as vs → (lg_sl vs).length = (zargs as).length
  | [], [], _ => rfl
  | v :: r, V :: R, h => by
    have ih := zargs_len h.2
    have e : lg_sl (V :: R) = (if V.category = 2 then [Slot.val V, .second] else [.val V]) ++ lg_sl R := rfl
    have hc := (zR1_cat h.1).1
    rw [e, List.length_append, ih]
    rcases v with z | z | z | z
    · rw [if_neg (fun w => by obtain ⟨q, hq⟩ := hc.mp w; cases hq)]
      show 1 + (zargs r).length = (zargs r).length + 1
      omega
    · rw [if_pos (hc.mpr ⟨z, rfl⟩)]
      show 2 + (zargs r).length = (zargs r).length + 1 + 1
      omega
    · rw [if_neg (fun w => by obtain ⟨q, hq⟩ := hc.mp w; cases hq)]
      show 1 + (zargs r).length = (zargs r).length + 1
      omega
    · rw [if_neg (fun w => by obtain ⟨q, hq⟩ := hc.mp w; cases hq)]
      show 1 + (zargs r).length = (zargs r).length + 1
      omega
  | [], _ :: _, h => h.elim
  | _ :: _, [], h => h.elim
theorem zargs_get {A : Int → Nat} {n : Nat} : ∀ {as : List zV} {vs : List Value} (k : Nat), zRs A n as vs → ∀ (i : Nat) (v : zV), (zargs as)[i]? = some v → v ≠ vu → ∃ V, (k + i, V) ∈ lv_args k vs ∧ zR1 A n v V
  | [], [], _, _, i, v, hi, _ => by cases hi
  | v :: r, V :: R, k, h, i, w, hi, hu => by
    have hc := (zR1_cat h.1).1
    have e : lv_args k (V :: R) = (k, V) :: lv_args (if V.category = 2 then k + 2 else k + 1) R := rfl
    have one : (∀ z, v ≠ vl z) → zargs (v :: r) = v :: zargs r → ∃ V', (k + i, V') ∈ lv_args k (V :: R) ∧ zR1 A n w V' := by
      intro hv hz
      rw [hz] at hi
      rw [e, if_neg (fun q => by obtain ⟨z, hz⟩ := hc.mp q; exact hv z hz)]
      cases i with
      | zero =>
        cases Option.some.inj hi
        exact ⟨V, List.mem_cons_self, h.1⟩
      | succ i =>
        obtain ⟨V', g1, g2⟩ := zargs_get (k + 1) h.2 i w hi hu
        exact ⟨V', List.mem_cons_of_mem _ (by rw [show k + (i + 1) = k + 1 + i by omega]; exact g1), g2⟩
    rcases v with z | z | z | z
    · exact one (fun _ q => by cases q) rfl
    · rw [e, if_pos (hc.mpr ⟨z, rfl⟩)]
      have hz : zargs (vl z :: r) = vl z :: vu :: zargs r := rfl
      rw [hz] at hi
      rcases i with _ | _ | i
      · cases Option.some.inj hi
        exact ⟨V, List.mem_cons_self, h.1⟩
      · cases Option.some.inj hi
        exact absurd rfl hu
      · obtain ⟨V', g1, g2⟩ := zargs_get (k + 2) h.2 i w hi hu
        exact ⟨V', List.mem_cons_of_mem _ (by rw [show k + (i + 1 + 1) = k + 2 + i by omega]; exact g1), g2⟩
    · exact one (fun _ q => by cases q) rfl
    · exact one (fun _ q => by cases q) rfl
  | [], _ :: _, _, h, _, _, _, _ => h.elim
  | _ :: _, [], _, h, _, _, _, _ => h.elim
theorem zentry {A : Int → Nat} {n nL : Nat} {as : List zV} {vs : List Value} (h : zRs A n as vs) (hl : (zargs as).length ≤ nL) : zRl A n (zargs as ++ List.replicate (nL - (zargs as).length) vu) ((lg_sl vs ++ List.replicate (nL - (lg_sl vs).length) Slot.unset).toArray) nL := by
  have hlen := zargs_len h
  have he := lv_entry vs (n := nL) (by omega)
  refine ⟨by rw [List.length_append, List.length_replicate]; omega, he.1, he.2.1, fun i v hv hu => ?_⟩
  by_cases hi : i < (zargs as).length
  · rw [List.getElem?_append_left hi] at hv
    obtain ⟨V, g1, g2⟩ := zargs_get 0 h i v hv hu
    rw [Nat.zero_add] at g1
    exact ⟨V, he.2.2 _ g1, g2⟩
  · rw [List.getElem?_append_right (by omega)] at hv
    have := List.mem_of_getElem? hv
    exact absurd (List.eq_of_mem_replicate this) hu
section
variable {p : Program} {l : Launch} {e : Env} {R : Room} {s s0 : State} {m : MethodId} {args args0 : Array Value} {below : List Frame} {meth : Method} {c : Code}
variable {b0 L b2 : Nat} {xs ys : Nat → Int32} {D : va_G} {DA : Nat → ClassId} {A0 : Int → Nat} {n0 c0 w0 : Nat}
variable {M : Nat → zMi} {y : zMi} {K : Nat → List zV → zS → zR} {d : Nat}
theorem zrun_snd {T : Nat → zE} (hx : p.tables.exec = Jvm.exec) (hb : c.code = y.2.1) (w0' : zW0 l s0 args0 D DA b0 L xs b2 ys) (hnc : zNc s0) (ws : zWs s0 s) (hown : s.vm.findClass y.1.cls = some m.cls) (hml : c.maxLocals = y.2.2.1) (hret : meth.sig.returnType = y.2.2.2.1) (hlocks : meth.locks = false) (hname : y.1.name = "<init>" → meth.name = "<init>") (hho : zhok y)
    (hRf : d + 8 ≤ R.frames) (hRl : 100 * d + 300 ≤ R.locals) (hKm : zgood K) (hKs : ∀ y' as S r, K y' as S = some r → zMet l s0 b0 L xs b2 ys D DA (M y') as S r d)
    (hT : ∀ pc, (T pc).1 = .nop ∨ (decode y.2.1 pc = .ok ((T pc).1, (T pc).2.1) ∧ zaux M y pc (T pc).1 (T pc).2.1 (T pc).2.2.2.1 (T pc).2.2.2.2.1 (T pc).2.2.2.2.2)) :
    ∀ (f pc : Nat) (als ast : List zV) (S : zS) (r : zO × zS), zrun T K y.2.2.2.2 (zrt y) f pc als ast S = some r → (c.exceptionTable.toList = tableOf (zhh y.2.2.2.2) ∨ (y.2.2.2.2 = [] ∧ ∃ ov, r.1 = .inl ov)) → zc r.2 - c0 ≤ R.cells → zw r.2 - w0 ≤ R.slots →
      zSnd p l e R s m args below meth c (vx_MQ below (zQc s0.heap.size b0 L xs b2 ys D DA A0 n0 r) (zXC s0.heap.size b0 L xs b2 ys D DA A0 n0 r) args s (zc r.2 - c0) (zw r.2 - w0) (zfr s0)) s0.heap.size b0 L xs b2 ys D DA y.2.2.1 A0 n0 c0 w0 pc als ast S
  | 0, _, _, _, _, _, h, _, _, _ => by cases h
  | f + 1, pc, als, ast, S, r, h, htab, hRc, hRs => by
    simp only [zrun] at h
    intro A H ls st locs h1
    rcases hT pc with hn | ⟨hd, hau⟩
    · rw [hn] at h
      cases (show (none : zR) = some r from h)
    · exact zstep_snd hx hb w0' hnc ws hown hml htab hret hlocks hname hho hRf hRl hRc hRs hKm hKs hau hd (fun p l t S1 h => zrun_mono hKm f p l t S1 r h) h
        (fun p l t S1 h => zrun_snd hx hb w0' hnc ws hown hml hret hlocks hname hho hRf hRl hKm hKs hT f p l t S1 r h htab hRc hRs) A H ls st locs (h1.mask _)
/-- THE INTERPRETER IS SOUND: a call's answer by depth is the method's contract over the machine -/
theorem zcall_snd {T : Nat → Nat → zE} (w0' : zW0 l s0 args0 D DA b0 L xs b2 ys) (hnc : zNc s0) (hok : ∀ y, zyok T M y) : ∀ (d y : Nat) (as : List zV) (S : zS) (r : zO × zS), zcallE T M d y as S = some r → zMet l s0 b0 L xs b2 ys D DA (M y) as S r d
  | 0, _, _, _, _, h => by cases h
  | d + 1, y, as, S, r, h => by
    simp only [zcallE] at h
    obtain ⟨hlen, h⟩ := bif_inv h
    have hlen := Nat.le_of_ble_eq_true hlen
    have hKm := zgood_call T M d
    obtain ⟨f, hf⟩ := (zE0_iff hKm).mp h
    obtain ⟨o1, o2, o3⟩ := hok y
    intro A
    have body : ∀ (p : Program) (e : Env) (s : State) (m : MethodId) (args : Array Value) (below : List Frame) (meth : Method) (c : Code) (s₁ : State), BodyLoose p l (M y).1 (headSpec [zcodeW (M y)] (zroom (d + 1) (zc r.2 - zc S) (zw r.2 - zw S))) (M y).2.1 (M y).2.2.1 (M y).2.2.2.1 e s m args below meth c s₁ → c.maxLocals = (M y).2.2.1 → c.exceptionTable.toList = tableOf (zhh (M y).2.2.2.2) → zPc s0 b0 L xs b2 ys D DA A as S args s →
        W p l e (headSpec [zcodeW (M y)] (zroom (d + 1) (zc r.2 - zc S) (zw r.2 - zw S))).room s m args below meth c s.heap [] 0 0 (vx_MQ below (zQc s0.heap.size b0 L xs b2 ys D DA A (zn S) r) (zXC s0.heap.size b0 L xs b2 ys D DA A (zn S) r) args s (zc r.2 - zc S) (zw r.2 - zw S) (zfr s0)) (entryFrame m args (M y).2.2.1) := by
      intro p e s m args below meth c s₁ B hml htab hP
      obtain ⟨vs, rfl, hvs, hH, hws⟩ := hP
      rw [lg_entry_eq]
      have hS := zrun_snd (e := e) (R := zroom (d + 1) (zc r.2 - zc S) (zw r.2 - zw S)) (below := below) (args := vs.toArray) (A0 := A) (n0 := zn S) (c0 := zc S) (w0 := zw S) (d := d) B.exec B.bytes w0' hnc hws (findClass_of_methodNamed B.named) hml B.returns B.notSynchronized (fun w => (name_of_methodNamed B.named B.method).1.trans w) o2 (by show d + 8 ≤ d + 1 + 7; omega) (by show 100 * d + 300 ≤ 100 * (d + 1) + 200; omega) hKm (zcall_snd w0' hnc hok d) o3 f 0 _ _ S r hf (Or.inl htab) (Nat.le_refl _) (Nat.le_refl _)
      exact W.cs (Nat.sub_self _).symm (Nat.sub_self _).symm (hS A s.heap _ [] [] (zentry hvs hlen) trivial hH va_S.rf (fun _ _ => rfl) (Nat.le_refl _) (Nat.le_refl _) (Nat.le_refl _))
    cases hh : (M y).2.2.2.2 with
    | nil =>
      have e1 : zcodeW (M y) = Cond.code (M y).1 (M y).2.1 (M y).2.2.1 (M y).2.2.2.1 := by unfold zcodeW; rw [hh]
      rw [e1] at body ⊢
      refine vx_ofW (cc := (M y).2.1) (maxL := (M y).2.2.1) (ret := (M y).2.2.2.1) o1 rfl fun p e s m args below meth c s₁ B hml ht hP => ?_
      refine body p e s m args below meth c s₁ B hml ?_ hP
      rw [hh]
      exact List.eq_nil_iff_forall_not_mem.mpr ht
    | cons q qs =>
      have e1 : zcodeW (M y) = Cond.codeWith (M y).1 (M y).2.1 (M y).2.2.1 (M y).2.2.2.1 (zhh (q :: qs)) := by unfold zcodeW; rw [hh]
      rw [e1] at body ⊢
      refine vx_ofWH (cc := (M y).2.1) (maxL := (M y).2.2.1) (ret := (M y).2.2.2.1) o1 rfl fun p e s m args below meth c s₁ B hml hP => ?_
      refine body p e s m args below meth c s₁ B hml ?_ hP
      rw [hh]
      exact vx_table (x := (M y).1) B (atoms_spec B.pre _ List.mem_cons_self)
end
