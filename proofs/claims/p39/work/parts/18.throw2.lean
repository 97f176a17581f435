/-! A throw of one's own; switches. -/
abbrev zNM : List String := ["java/lang/RuntimeException", "java/lang/Exception"]
theorem zat_g (x : Nat) (h : x < 3) : ∀ w ∈ (vx_atS RX12 (zXc x) (zX x) zNM).filter goodWord, w ∈ lw_tbl := by
  rcases x with _ | _ | _ | x
  · exact zat_g0
  · exact zat_g1
  · exact zat_g2
  · omega
theorem zat_b (x : Nat) (h : x < 3) : ∀ w ∈ (vx_atS RX12 (zXc x) (zX x) zNM).filter (fun w => !goodWord w), w ∈ zbad (zX x) := by
  rcases x with _ | _ | _ | x
  · exact zat_b0
  · exact zat_b1
  · exact zat_b2
  · omega
theorem zat_o (x : Nat) (h : x < 3) : ∀ w ∈ vx_atS RX12 (zXc x) (zX x) zNM, vx_ot w = true := by
  rcases x with _ | _ | _ | x
  · exact zat_o0
  · exact zat_o1
  · exact zat_o2
  · omega
theorem zX_fit (x : Nat) (h : x < 3) : Bundle.fit (zX x) = true := by
  rcases x with _ | _ | _ | x
  · decide
  · decide
  · decide
  · omega
theorem zNM_fit : ∀ n ∈ zNM, Bundle.fit n = true := by decide
section
variable {p : Program} {l : Launch} {e : Env} {R : Room} {s s0 : State} {m : MethodId} {args args0 : Array Value} {below : List Frame} {meth : Method} {c : Code} {Q : State → Prop} {cc : ByteArray}
variable {b0 L b2 : Nat} {xs ys : Nat → Int32} {D : va_G} {DA : Nat → ClassId} {nL : Nat} {A0 : Int → Nat} {n0 c0 w0 : Nat} {pc : Nat} {als ast : List zV} {S : zS} {own : String}
theorem zatw {x : Nat} (w0' : zW0 l s0 args0 D DA b0 L xs b2 ys) (ws : zWs s0 s) (h : x < 3) : ∀ w ∈ vx_atS RX12 (zXc x) (zX x) zNM, w.before args s = true := by
  intro w hw
  by_cases g : goodWord w = true
  · exact w0'.wd ws (zat_g x h w (List.mem_filter.mpr ⟨hw, g⟩)) g _
  · have hb := zat_b x h w (List.mem_filter.mpr ⟨hw, by cases hq : goodWord w; rfl; exact absurd hq g⟩)
    have hin := zbad_in x h w hb
    simp only [zbad, List.mem_cons, List.not_mem_nil, or_false] at hb
    rcases hb with rfl | rfl | rfl | rfl
    · exact (va_Nw.warmC ws.1 (w0'.nw hin rfl)).use rfl
    · exact (va_Nw.warmD ws.1 (w0'.nw hin rfl)).use rfl
    · exact (va_Nw.warmD ws.1 (w0'.nw hin rfl)).use rfl
    · exact (va_Nw.warmD ws.1 (w0'.nw hin rfl)).use rfl
/-- the bytes at pc throw exception x: new, dup, ldc, invokespecial, athrow -/
def zthrows (cc : ByteArray) (pc x : Nat) : Prop := ∃ (ik is : Nat) (tx : String), Cond.classLink RX12 ik (zX x) ∈ lw_tbl ∧ Cond.stringRef RX12 is tx ∈ lw_tbl ∧ Cond.initialized (zX x) ∈ lw_tbl ∧ decode cc pc = .ok (.new ik, 3) ∧ decode cc (pc + 3) = .ok (.dup, 1) ∧
  ((decode cc (pc + 4) = .ok (.ldc is, 2) ∧ decode cc (pc + 6) = .ok (.invokespecial (zXc x), 3) ∧ decode cc (pc + 9) = .ok (.athrow, 1)) ∨ (decode cc (pc + 4) = .ok (.ldc_w is, 3) ∧ decode cc (pc + 7) = .ok (.invokespecial (zXc x), 3) ∧ decode cc (pc + 10) = .ok (.athrow, 1)))
theorem zs_throw {x : Nat} (hx : p.tables.exec = Jvm.exec) (hb : c.code = cc) (w0' : zW0 l s0 args0 D DA b0 L xs b2 ys) (ws : zWs s0 s) (hown : s.vm.findClass RX12 = some m.cls) (hml : c.maxLocals = nL) (hx3 : x < 3) (ht : zthrows cc pc x) (hout : ∀ z ∈ c.exceptionTable.toList, False) (hlocks : meth.locks = false) (hcat : zcat ast ≤ 8)
    (hRf : 6 ≤ R.frames) (hRl : 100 ≤ R.locals) (hRc : zc S + 1 - c0 ≤ R.cells) (hRs : zw S + 6 - w0 ≤ R.slots) :
    zSnd p l e R s m args below meth c (vx_MQ below (zQc s0.heap.size b0 L xs b2 ys D DA A0 n0 (.inr x, zbump S)) (zXC s0.heap.size b0 L xs b2 ys D DA A0 n0 (.inr x, zbump S)) args s (zc (zbump S) - c0) (zw (zbump S) - w0) (zfr s0)) s0.heap.size b0 L xs b2 ys D DA nL A0 n0 c0 w0 pc als ast S := by
  intro A H ls st locs h1 h2 h3 h4 h5 h6 h7 h8
  obtain ⟨ik, is, tx, k1, k2, k3, d0, d3, hd⟩ := ht
  obtain ⟨sa, hstr⟩ := w0'.str ws k2 hown
  have hcs := zRs_cat h2
  have hgood : ∀ w ∈ Cond.classLink RX12 ik (zX x) :: Cond.initialized (zX x) :: vx_atS RX12 (zXc x) (zX x) zNM, vx_ot w = true := by
    intro w hw
    rcases List.mem_cons.mp hw with rfl | hw
    · rfl
    · rcases List.mem_cons.mp hw with rfl | hw
      · rfl
      · exact zat_o x hx3 w hw
  have ec : zc (zbump S) = zc S + 1 := rfl
  have ew : zw (zbump S) = zw S + 6 := rfl
  have hXC : ∀ t : State, s.vm.Alike t.vm → H.size ≤ t.heap.size → (∀ q : Nat, q < H.size → t.heap[q]? = H[q]?) → zXC s0.heap.size b0 L xs b2 ys D DA A0 n0 (.inr x, zbump S) (zX x) s t := by
    intro t hA hz hq
    refine ⟨A, x, rfl, rfl, h5, ⟨h3.1, h3.2.1.kept fun k q hk => hq q.1 (h3.2.1 k q hk).lt, h3.2.2⟩, ⟨Nat.le_trans h4.1 hz, fun q g1 g2 => ?_⟩⟩
    rw [hq q (Nat.lt_of_lt_of_le g1 h4.1)]
    exact h4.2.1 q g1 g2
  rcases hd with ⟨d4, d6, d9⟩ | ⟨d4, d7, d10⟩
  · exact vx_throwS (A := zfr s0) (own := RX12) (cls := zX x) (text := tx) (names := zNM) (ik := ik) (is := is) (ic := zXc x) (sa := sa) hx hb w0'.1 hown (zX_fit x hx3) zNM_fit (w0'.wd ws k1 rfl _) (w0'.wd ws k3 rfl _) hstr (zatw w0' ws hx3) hgood (w0'.U ws) (w0'.N ws) h4 (by rw [hml]; exact h1.2.1) d0 d3 d4 d6 d9 (fun z hz => (hout z hz).elim)
      (by show 2 + 3 < _; omega) (by show _ + (13 * (2 + 1) + 43) ≤ _; omega) (by omega) (by omega) hlocks hXC h4.2.2 (by omega) (by omega)
  · exact vx_throwSW (A := zfr s0) (own := RX12) (cls := zX x) (text := tx) (names := zNM) (ik := ik) (is := is) (ic := zXc x) (sa := sa) hx hb w0'.1 hown (zX_fit x hx3) zNM_fit (w0'.wd ws k1 rfl _) (w0'.wd ws k3 rfl _) hstr (zatw w0' ws hx3) hgood (w0'.U ws) (w0'.N ws) h4 (by rw [hml]; exact h1.2.1) d0 d3 d4 d7 d10 (fun z hz => (hout z hz).elim)
      (by show 2 + 3 < _; omega) (by show _ + (13 * (2 + 1) + 43) ≤ _; omega) (by omega) (by omega) hlocks hXC h4.2.2 (by omega) (by omega)
theorem zs_table {x d lo hi : Int} {offs : Array Int} {n : Nat} {t : List zV} (hx : p.tables.exec = Jvm.exec) (hb : c.code = cc) (hdg : decode cc pc = .ok (.tableswitch d lo hi offs, n)) (hd : 0 ≤ (pc : Int) + d) (ho : ∀ o ∈ offs.toList, 0 ≤ (pc : Int) + o) (hsz : (offs.size : Int) = hi - lo + 1)
    (k : zSnd p l e R s m args below meth c Q s0.heap.size b0 L xs b2 ys D DA nL A0 n0 c0 w0 (zsw pc (.tableswitch d lo hi offs) x) als t S) : zSnd p l e R s m args below meth c Q s0.heap.size b0 L xs b2 ys D DA nL A0 n0 c0 w0 pc als (vi x :: t) S := by
  intro A H ls st locs h1 h2 h3 h4 h5 h6 h7 h8
  obtain ⟨_, st, rfl, ⟨u, rfl, hu⟩, hp⟩ := zRs_cons h2
  have k' := k A H ls st locs h1 hp h3 h4 h5 h6 h7 h8
  unfold zsw at k'
  dsimp only at k'
  by_cases hc : x < lo ∨ hi < x
  · rw [if_pos hc] at k'
    exact lv_tableOut hx hb hdg (by rw [hu]; exact hc) (by omega) k'
  · rw [if_neg hc] at k'
    have hlt : (x - lo).toNat < offs.size := by omega
    have hg : offs[(x - lo).toNat]? = some (offs.toList.getD (x - lo).toNat 0) := by
      rw [List.getD_eq_getElem?_getD, Array.getElem?_toList, Array.getElem?_eq_getElem hlt]
      rfl
    have hm : offs.toList.getD (x - lo).toNat 0 ∈ offs.toList := by
      rw [← Array.getElem?_toList] at hg
      exact List.mem_of_getElem? hg
    have := ho _ hm
    exact lv_tableIn hx hb hdg (by rw [hu]; omega) (by rw [hu]; omega) (by rw [hu]; exact hg) (by omega) k'
theorem zlook_in (d x : Int) : ∀ ps : List (Int × Int), Op.lookupswitch.offset ps d x = d ∨ ∃ q ∈ ps, Op.lookupswitch.offset ps d x = q.2
  | [] => Or.inl rfl
  | (a, o) :: r => by
    unfold Op.lookupswitch.offset
    by_cases hq : a = x
    · rw [if_pos hq]
      exact Or.inr ⟨(a, o), List.mem_cons_self, rfl⟩
    · rw [if_neg hq]
      rcases zlook_in d x r with h | ⟨z, hz, h⟩
      · exact Or.inl h
      · exact Or.inr ⟨z, List.mem_cons_of_mem _ hz, h⟩
theorem zs_look {x d : Int} {ps : Array (Int × Int)} {n : Nat} {t : List zV} (hx : p.tables.exec = Jvm.exec) (hb : c.code = cc) (hdg : decode cc pc = .ok (.lookupswitch d ps, n)) (hd : 0 ≤ (pc : Int) + d) (ho : ∀ q ∈ ps.toList, 0 ≤ (pc : Int) + q.2) (hsort : (ps.toList.zip (ps.toList.drop 1)).all (fun (a, next) => a.1 < next.1) = true)
    (k : zSnd p l e R s m args below meth c Q s0.heap.size b0 L xs b2 ys D DA nL A0 n0 c0 w0 (zsw pc (.lookupswitch d ps) x) als t S) : zSnd p l e R s m args below meth c Q s0.heap.size b0 L xs b2 ys D DA nL A0 n0 c0 w0 pc als (vi x :: t) S := by
  intro A H ls st locs h1 h2 h3 h4 h5 h6 h7 h8
  obtain ⟨_, st, rfl, ⟨u, rfl, hu⟩, hp⟩ := zRs_cons h2
  have k' := k A H ls st locs h1 hp h3 h4 h5 h6 h7 h8
  unfold zsw at k'
  dsimp only at k'
  have hnn : 0 ≤ (pc : Int) + Op.lookupswitch.offset ps.toList d x := by
    rcases zlook_in d x ps.toList with h | ⟨q, hq, h⟩
    · rw [h]; exact hd
    · rw [h]; exact ho q hq
  exact lv_lookup hx hb hdg hsort (by rw [hu]) (by omega) k'
end
