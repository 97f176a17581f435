/-! What the law's start gives, and what of it holds at every method's entry. -/
def zRX (ci : Nat) : String := match ci with
  | 0 => RX0
  | 1 => RX1
  | 2 => RX2
  | 3 => RX3
  | 4 => RX4
  | 5 => RX5
  | 6 => RX6
  | 7 => RX7
  | 8 => RX8
  | 9 => RX9
  | 10 => RX10
  | 11 => RX11
  | 12 => RX12
  | _ => RX13
def zTX (ci : Nat) : u_T := match ci with
  | 0 => TX0
  | 1 => TX1
  | 2 => TX2
  | 3 => TX3
  | 4 => TX4
  | 5 => TX5
  | 6 => TX6
  | 7 => TX7
  | 8 => TX8
  | 9 => TX9
  | 10 => TX10
  | 11 => TX11
  | 12 => TX12
  | _ => TX13
theorem zcl_get (ci : Nat) (h : ci < 13) : zcl[ci]? = some (zRX ci, zTX ci, zN ci) := by
  rcases ci with _ | _ | _ | _ | _ | _ | _ | _ | _ | _ | _ | _ | _ | ci
  all_goals first | rfl | omega
theorem zRX_0 : ∀ w ∈ wsX00, w ∈ lw_tbl ∧ goodWord w = true := by decide +kernel
def zfr (s0 : State) : Nat → Prop := fun q => s0.heap.size ≤ q
/-- the law's start -/
def zW0 (l : Launch) (s0 : State) (args0 : Array Value) (D : va_G) (DA : Nat → ClassId) (b0 L : Nat) (xs : Nat → Int32) (b2 : Nat) (ys : Nat → Int32) : Prop :=
  l.stackTraces = false ∧ (∀ w ∈ lw_tbl, w.before args0 s0 = true) ∧ va_K D zcl (ztys DA) s0 ∧ va_X b0 L xs s0 s0.heap ∧ va_T .int b2 26 (fun j => .int (ys j)) (zfr s0) s0 s0.heap ∧ b0 < s0.heap.size ∧ b2 < s0.heap.size ∧
  va_Z RX12 "LETTER_CELLS" "[I" (.ref b2) (zfr s0) s0 s0.heap ∧ vx_Zq Bundle.tN "UNASSIGNED_STACK" Bundle.steD (zfr s0) s0 s0.heap ∧ vx_Zq Bundle.tN "SUPPRESSED_SENTINEL" Bundle.listD (zfr s0) s0 s0.heap ∧ L < 2147483648
/-- a method's entry -/
def zWs (s0 s : State) : Prop := s0.WarmedH s.vm ∧ s0.heap.size ≤ s.heap.size ∧ ∀ q : Nat, q < s0.heap.size → s.heap[q]? = s0.heap[q]?
section
variable {l : Launch} {s0 s : State} {args0 : Array Value} {D : va_G} {DA : Nat → ClassId} {b0 L b2 : Nat} {xs ys : Nat → Int32}
theorem zW0.wd (h : zW0 l s0 args0 D DA b0 L xs b2 ys) (hs : zWs s0 s) {w : Cond} (hw : w ∈ lw_tbl) (hg : goodWord w = true) (a : Array Value) : w.before a s = true := word_at hs.1 (good_of_word hg) (h.2.1 w hw)
theorem zW0.K (h : zW0 l s0 args0 D DA b0 L xs b2 ys) (hs : zWs s0 s) : va_K D zcl (ztys DA) s := h.2.2.1.moved hs.1.alike
theorem zW0.X (h : zW0 l s0 args0 D DA b0 L xs b2 ys) (hs : zWs s0 s) : va_X b0 L xs s s.heap := (va_X.moved hs.1.alike h.2.2.2.1).kept (hs.2.2 b0 h.2.2.2.2.2.1)
theorem zW0.X2 (h : zW0 l s0 args0 D DA b0 L xs b2 ys) (hs : zWs s0 s) : va_T .int b2 26 (fun j => .int (ys j)) (zfr s0) s s.heap := (va_T.moved hs.1.alike h.2.2.2.2.1).kept fun a ha _ => hs.2.2 a ha
theorem zW0.Z (h : zW0 l s0 args0 D DA b0 L xs b2 ys) (hs : zWs s0 s) : va_Z RX12 "LETTER_CELLS" "[I" (.ref b2) (zfr s0) s s.heap := (va_Z.moved hs.1.alike h.2.2.2.2.2.2.2.1).kept fun a ha _ => hs.2.2 a ha
theorem zW0.U (h : zW0 l s0 args0 D DA b0 L xs b2 ys) (hs : zWs s0 s) : vx_Zq Bundle.tN "UNASSIGNED_STACK" Bundle.steD (zfr s0) s s.heap := (vx_Zq.moved hs.1.alike h.2.2.2.2.2.2.2.2.1).kept fun a ha _ => hs.2.2 a ha
theorem zW0.N (h : zW0 l s0 args0 D DA b0 L xs b2 ys) (hs : zWs s0 s) : vx_Zq Bundle.tN "SUPPRESSED_SENTINEL" Bundle.listD (zfr s0) s s.heap := (vx_Zq.moved hs.1.alike h.2.2.2.2.2.2.2.2.2.1).kept fun a ha _ => hs.2.2 a ha
theorem zW0.nw (h : zW0 l s0 args0 D DA b0 L xs b2 ys) {w : Cond} (hw : w ∈ lw_tbl) (ho : w.onTables = true) : va_Nw w s0 := va_Nw.of ho (h.2.1 w hw)
theorem zW0.str (h : zW0 l s0 args0 D DA b0 L xs b2 ys) (hs : zWs s0 s) {own tx : String} {k : Nat} (hw : Cond.stringRef own k tx ∈ lw_tbl) {cur : ClassId} (hc : s.vm.findClass own = some cur) : ∃ sa, vk_R own k tx sa s := by
  have h1 := h.2.1 _ hw
  have hc0 : s0.vm.findClass own = some cur := by rw [← hs.1.alike.findClass]; exact hc
  obtain ⟨-, -, -, a, -, -, -, -, -, hev⟩ := Cond.stringRef_spec hc0 h1
  exact ⟨a, (vk_R.of h1 hev).warm hs.1⟩
end
/-- the memory and the heap -/
def zH (fr b0 L : Nat) (xs : Nat → Int32) (b2 : Nat) (ys : Nat → Int32) (D : va_G) (DA : Nat → ClassId) (A : Int → Nat) (S : zS) (H : Heap) : Prop :=
  zok L S ∧ va_P D zcl (zws DA A S) H ∧ va_D (fun q => fr ≤ q) (zws DA A S) ∧ A 1 = b0 ∧ A 2 = b2 ∧ (∀ j : Nat, j < L → zm S 1 j = (xs j).toInt) ∧ ∀ j : Nat, j < 26 → zm S 2 j = (ys j).toInt
/-- from this point of the frame on, the machine comes to Q -/
def zSnd (p : Program) (l : Launch) (e : Env) (R : Room) (s : State) (m : MethodId) (args : Array Value) (below : List Frame) (meth : Method) (c : Code) (Q : State → Prop) (fr b0 L : Nat) (xs : Nat → Int32) (b2 : Nat) (ys : Nat → Int32) (D : va_G) (DA : Nat → ClassId) (nL : Nat) (A0 : Int → Nat) (n0 c0 w0 : Nat) (pc : Nat) (als ast : List zV) (S : zS) : Prop :=
  ∀ (A : Int → Nat) (H : Heap) (ls : Array Slot) (st : List Value) (locs : List Loc), zRl A (zn S) als ls nL → zRs A (zn S) ast st → zH fr b0 L xs b2 ys D DA A S H → va_S (fun q => fr ≤ q) s.heap H locs → (∀ a : Int, a < n0 → A a = A0 a) → n0 ≤ zn S → c0 ≤ zc S → w0 ≤ zw S →
    W p l e R s m args below meth c H locs (zc S - c0) (zw S - w0) Q (F0 m pc ls st)
