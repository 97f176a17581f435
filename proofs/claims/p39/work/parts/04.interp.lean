/-! An interpreter of the bytecode over a plain memory: values are whole numbers with a tag, a state is a map of kinds and a map of contents. -/
abbrev zV : Type := Int ⊕ (Int ⊕ (Int ⊕ Unit))
abbrev vi (n : Int) : zV := .inl n
abbrev vl (n : Int) : zV := .inr (.inl n)
abbrev vr (n : Int) : zV := .inr (.inr (.inl n))
abbrev vu : zV := .inr (.inr (.inr ()))
/-- ((next address, cells made, slots made), kinds: (code, length), contents) -/
abbrev zS : Type := (Nat × Nat × Nat) × (Int → Nat × Int) × (Int → Int → Int)
def zn (S : zS) : Nat := S.1.1
def zc (S : zS) : Nat := S.1.2.1
def zw (S : zS) : Nat := S.1.2.2
def zk (S : zS) (a : Int) : Nat × Int := S.2.1 a
def zm (S : zS) (a j : Int) : Int := S.2.2 a j
def zput (S : zS) (a j v : Int) : zS := (S.1, S.2.1, fun b i => if b = a then (if i = j then v else S.2.2 b i) else S.2.2 b i)
def zalloc (S : zS) (t : Nat) (len : Int) (w : Nat) : zS :=
  ((S.1.1 + 1, S.1.2.1 + 1, S.1.2.2 + w), (fun b => if b = (S.1.1 : Int) then (t, len) else S.2.1 b), fun b i => if b = (S.1.1 : Int) then 0 else S.2.2 b i)
/-- n rows of k places behind an outer array -/
def zmulti (S : zS) (t u : Nat) (n k : Nat) : zS :=
  ((S.1.1 + 1 + n, S.1.2.1 + 1 + n, S.1.2.2 + n + n * k),
   (fun b => if b = (S.1.1 : Int) then (t, (n : Int)) else if (S.1.1 : Int) < b ∧ b ≤ (S.1.1 : Int) + n then (u, (k : Int)) else S.2.1 b),
   fun b i => if b = (S.1.1 : Int) then (if 0 ≤ i ∧ i < n then (S.1.1 : Int) + 1 + i else 0) else if (S.1.1 : Int) < b ∧ b ≤ (S.1.1 : Int) + n then 0 else S.2.2 b i)
def zbump (S : zS) : zS := ((S.1.1, S.1.2.1 + 1, S.1.2.2 + 6), S.2)
/-- how a call ends: a value, or the number of an exception's class -/
abbrev zO : Type := Option zV ⊕ Nat
abbrev zR : Type := Option (zO × zS)
/-- instruction, length, which locals are kept ahead of it, three numbers that belong to it -/
abbrev zE : Type := Instr × Nat × List Bool × Nat × Nat × Nat
def zchk (c : Prop) [Decidable c] (r : zR) : zR := if c then r else none
def z32 (x : Int) : Int := (x + 2147483648) % 4294967296 - 2147483648
def z64 (x : Int) : Int := (x + 9223372036854775808) % 18446744073709551616 - 9223372036854775808
def zand (a b : Int) : Int := (Int32.ofInt a &&& Int32.ofInt b).toInt
def zor (a b : Int) : Int := (Int32.ofInt a ||| Int32.ofInt b).toInt
def zxor (a b : Int) : Int := (Int32.ofInt a ^^^ Int32.ofInt b).toInt
def zshl (a b : Int) : Int := (Int32.ofInt a <<< (Int32.ofInt b &&& 31)).toInt
def zshr (a b : Int) : Int := (Int32.ofInt a >>> (Int32.ofInt b &&& 31)).toInt
def zushr (a b : Int) : Int := ((Int32.ofInt a).toUInt32 >>> ((Int32.ofInt b).toUInt32 &&& Int32.toUInt32 31)).toInt32.toInt
def zlnd (a b : Int) : Int := (Int64.ofInt a &&& Int64.ofInt b).toInt
def zlor (a b : Int) : Int := (Int64.ofInt a ||| Int64.ofInt b).toInt
def zlxor (a b : Int) : Int := (Int64.ofInt a ^^^ Int64.ofInt b).toInt
def zlshl (a b : Int) : Int := (Int64.ofInt a <<< ((Int32.ofInt b).toInt64 &&& 63)).toInt
def zlshr (a b : Int) : Int := (Int64.ofInt a >>> ((Int32.ofInt b).toInt64 &&& 63)).toInt
def zlushr (a b : Int) : Int := ((Int64.ofInt a).toUInt64 >>> ((Int32.ofInt b).toInt64.toUInt64 &&& Int64.toUInt64 63)).toInt64.toInt
def zcmp (a b : Int) : Int := if a < b then -1 else if a = b then 0 else 1
/-- what a slot of type code t takes (n: the first address that is not in use): 0 int, 1 long, 2 char, 3 byte, 4 boolean, 5 reference -/
def zfit (n : Nat) (t : Nat) (z : Int) : Prop := match t with
  | 0 => -2147483648 ≤ z ∧ z < 2147483648
  | 1 => -9223372036854775808 ≤ z ∧ z < 9223372036854775808
  | 2 => 0 ≤ z ∧ z < 65536
  | 3 => -128 ≤ z ∧ z < 128
  | 4 => 0 ≤ z ∧ z ≤ 1
  | 5 => 0 ≤ z ∧ z < n
  | _ => True
def ztag (t : Nat) (z : Int) : zV := match t with
  | 1 => vl z
  | 5 => vr z
  | _ => vi z
def zmask : List Bool → List zV → List zV
  | b :: bs, v :: vs => (bif b then v else vu) :: zmask bs vs
  | _, vs => vs
def zclr : Nat → List zV → List zV
  | 0, ls => ls
  | i + 1, ls => match ls[i]? with
    | some (.inr (.inl _)) => ls.set i vu
    | _ => ls
def zst1 (i : Nat) (v : zV) (ls : List zV) : List zV := (zclr i ls).set i v
def zst2 (i : Nat) (v : zV) (ls : List zV) : List zV := ((zclr i ls).set i v).set (i + 1) vu
def zcat : List zV → Nat
  | [] => 0
  | .inr (.inl _) :: r => 2 + zcat r
  | _ :: r => 1 + zcat r
abbrev zC : Type := Nat → List zV → List zV → zS → zR
def zld (i : Nat) (ls st : List zV) (S : zS) (k : List zV → zR) : zR := match ls[i]? with
  | some v => k (v :: st)
  | none => none
def zldi (i : Nat) (ls st : List zV) (S : zS) (k : List zV → zR) : zR := match ls[i]? with
  | some (.inl v) => k (vi v :: st)
  | _ => none
def zldl (i : Nat) (ls st : List zV) (S : zS) (k : List zV → zR) : zR := match ls[i]? with
  | some (.inr (.inl v)) => k (vl v :: st)
  | _ => none
def zlda (i : Nat) (ls st : List zV) (S : zS) (k : List zV → zR) : zR := match ls[i]? with
  | some (.inr (.inr (.inl v))) => k (vr v :: st)
  | _ => none
def zii (st : List zV) (f : Int → Int → Int) (k : List zV → zR) : zR := match st with
  | .inl b :: .inl a :: r => k (vi (f a b) :: r)
  | _ => none
def zll (st : List zV) (f : Int → Int → Int) (k : List zV → zR) : zR := match st with
  | .inr (.inl b) :: .inr (.inl a) :: r => k (vl (f a b) :: r)
  | _ => none
def zli (st : List zV) (f : Int → Int → Int) (k : List zV → zR) : zR := match st with
  | .inl b :: .inr (.inl a) :: r => k (vl (f a b) :: r)
  | _ => none
def zone (st : List zV) (f : Int → zV) (k : List zV → zR) : zR := match st with
  | .inl a :: r => k (f a :: r)
  | _ => none
def zoneL (st : List zV) (f : Int → zV) (k : List zV → zR) : zR := match st with
  | .inr (.inl a) :: r => k (f a :: r)
  | _ => none
def zsti (i : Nat) (ls st : List zV) (k : List zV → List zV → zR) : zR := match st with
  | .inl v :: r => k (zst1 i (vi v) ls) r
  | _ => none
def zstl (i : Nat) (ls st : List zV) (k : List zV → List zV → zR) : zR := match st with
  | .inr (.inl v) :: r => k (zst2 i (vl v) ls) r
  | _ => none
def zsta (i : Nat) (ls st : List zV) (k : List zV → List zV → zR) : zR := match st with
  | .inr (.inr v) :: r => k (zst1 i (.inr (.inr v)) ls) r
  | _ => none
def zif (c : Jvm.ClassFile.Cond) (a b : Int) (x y : zR) : zR := match c with
  | .eq => if a = b then x else y
  | .ne => if a = b then y else x
  | .lt => if a < b then x else y
  | .ge => if a < b then y else x
  | .gt => if b < a then x else y
  | .le => if b < a then y else x
/-- a load out of an array of kind t (or of kind u), pushed with the tag g -/
def zald (t u g : Nat) (st : List zV) (S : zS) (k : List zV → zR) : zR := match st with
  | .inl j :: .inr (.inr (.inl a)) :: r => zchk (((zk S a).1 = t ∨ (zk S a).1 = u) ∧ 0 ≤ j ∧ j < (zk S a).2) (k (ztag g (zm S a j) :: r))
  | _ => none
def zcall (r : zR) (f : Option zV → zS → zR) (g : Nat → zS → zR) : zR := match r with
  | none => none
  | some (.inl v, S) => f v S
  | some (.inr e, S) => g e S
def zpush (v : Option zV) (r : List zV) : List zV := match v with
  | none => r
  | some w => w :: r
/-- which handler takes exception e at pc: (from, to, handler, exception's number) -/
def zcatch : List (Nat × Nat × Nat × Nat) → Nat → Nat → Option Nat
  | [], _, _ => none
  | (f, t, h, x) :: r, pc, e => bif (Nat.ble f pc && (Nat.blt pc t && Nat.beq x e)) then some h else zcatch r pc e
def zthr (hs : List (Nat × Nat × Nat × Nat)) (pc : Nat) (ls : List zV) (k : zC) (e : Nat) (S : zS) : zR := match hs with
  | [] => some (.inr e, S)
  | q :: qs => match zcatch (q :: qs) pc e with
    | none => none
    | some h => k h ls [vu] S
def zsw (pc : Nat) (i : Instr) (x : Int) : Nat := match i with
  | .tableswitch d lo hi offs => ((pc : Int) + (if x < lo ∨ hi < x then d else offs.toList.getD (x - lo).toNat 0)).toNat
  | .lookupswitch d ps => ((pc : Int) + Op.lookupswitch.offset ps.toList d x).toNat
  | _ => 0
def zrng (t : Nat) (z : Int) (r : zR) : zR := match t with
  | 2 => zchk (0 ≤ z ∧ z < 65536) r
  | 3 => zchk (-128 ≤ z ∧ z < 128) r
  | 4 => zchk (0 ≤ z ∧ z ≤ 1) r
  | _ => r
def zaty : ArrayType → Nat
  | .int => 0
  | .long => 1
  | .char => 2
  | .byte => 3
  | .boolean => 4
  | _ => 98
def zretn (f : Option zV → zS → zR) (r : zR) : zR := match r with
  | some (.inl v, S) => f v S
  | _ => none
def zvoid (v : Option zV) (r : zR) : zR := match v with
  | none => r
  | some _ => none
/-- putfield: the value fits the slot -/
def zputf (g : Nat) (v : zV) (r : Int → zR) : zR := match v with
  | .inl z => (match g with
    | 0 => r z
    | 2 => zchk (0 ≤ z ∧ z < 65536) (r z)
    | 3 => zchk (-128 ≤ z ∧ z < 128) (r z)
    | 4 => zchk (0 ≤ z ∧ z ≤ 1) (r z)
    | _ => none)
  | .inr (.inl z) => (match g with
    | 1 => r z
    | _ => none)
  | .inr (.inr (.inl z)) => (match g with
    | 5 => r z
    | _ => none)
  | _ => none
/-- Math.max, Math.min -/
def zmm (st : List zV) (f : Int → Int → Int) (k : List zV → zR) : zR := match st with
  | .inl y :: .inl x :: r => (bif Nat.ble (zcat r) 8 then k (vi (f x y) :: r) else none)
  | _ => none
def zml (st : List zV) (f : Int → Int → Int) (k : List zV → zR) : zR := match st with
  | .inr (.inl y) :: .inr (.inl x) :: r => (bif Nat.ble (zcat r) 8 then k (vl (f x y) :: r) else none)
  | _ => none
/-- a constant: its size, 1 where it is below 0 -/
def zsg (a b : Nat) : Int := match b with
  | 0 => (a : Int)
  | _ => -(a : Int)
def zstep (K : Nat → List zV → zS → zR) (hs : List (Nat × Nat × Nat × Nat)) (rt : Nat) (ins : Instr) (n a b c : Nat) (pc : Nat) (ls st : List zV) (S : zS) (k : zC) : zR := match ins with
  | .iconst i => k (pc + n) ls (vi i :: st) S
  | .bipush i => k (pc + n) ls (vi i :: st) S
  | .sipush i => k (pc + n) ls (vi i :: st) S
  | .lconst _ => k (pc + n) ls (vl (a : Int) :: st) S
  | .ldc _ => k (pc + n) ls (vi (zsg a b) :: st) S
  | .ldc_w _ => k (pc + n) ls (vi (zsg a b) :: st) S
  | .ldc2_w _ => k (pc + n) ls (vl (zsg a b) :: st) S
  | .aconst_null => k (pc + n) ls (vr 0 :: st) S
  | .getstatic _ => k (pc + n) ls (vr (a : Int) :: st) S
  | .iload_n _ => zldi a ls st S fun st => k (pc + n) ls st S
  | .iload _ => zldi a ls st S fun st => k (pc + n) ls st S
  | .lload_n _ => zldl a ls st S fun st => k (pc + n) ls st S
  | .lload _ => zldl a ls st S fun st => k (pc + n) ls st S
  | .aload_n _ => zlda a ls st S fun st => k (pc + n) ls st S
  | .aload _ => zlda a ls st S fun st => k (pc + n) ls st S
  | .istore_n _ => zsti a ls st fun ls st => k (pc + n) ls st S
  | .istore _ => zsti a ls st fun ls st => k (pc + n) ls st S
  | .lstore_n _ => zstl a ls st fun ls st => k (pc + n) ls st S
  | .lstore _ => zstl a ls st fun ls st => k (pc + n) ls st S
  | .astore_n _ => zsta a ls st fun ls st => k (pc + n) ls st S
  | .astore _ => zsta a ls st fun ls st => k (pc + n) ls st S
  | .iinc _ d => (match ls[a]? with
    | some (.inl v) => k (pc + n) (zst1 a (vi (z32 (v + d))) ls) st S
    | _ => none)
  | .iadd => zii st (fun x y => z32 (x + y)) fun st => k (pc + n) ls st S
  | .isub => zii st (fun x y => z32 (x - y)) fun st => k (pc + n) ls st S
  | .imul => zii st (fun x y => z32 (x * y)) fun st => k (pc + n) ls st S
  | .iand => zii st zand fun st => k (pc + n) ls st S
  | .ior => zii st zor fun st => k (pc + n) ls st S
  | .ixor => zii st zxor fun st => k (pc + n) ls st S
  | .ishl => zii st zshl fun st => k (pc + n) ls st S
  | .ishr => zii st zshr fun st => k (pc + n) ls st S
  | .iushr => zii st zushr fun st => k (pc + n) ls st S
  | .idiv => (match st with
    | .inl y :: .inl x :: r => zchk (y ≠ 0) (k (pc + n) ls (vi (z32 (x.tdiv y)) :: r) S)
    | _ => none)
  | .irem => (match st with
    | .inl y :: .inl x :: r => zchk (y ≠ 0) (k (pc + n) ls (vi (x.tmod y) :: r) S)
    | _ => none)
  | .ladd => zll st (fun x y => z64 (x + y)) fun st => k (pc + n) ls st S
  | .lsub => zll st (fun x y => z64 (x - y)) fun st => k (pc + n) ls st S
  | .lmul => zll st (fun x y => z64 (x * y)) fun st => k (pc + n) ls st S
  | .land => zll st zlnd fun st => k (pc + n) ls st S
  | .lor => zll st zlor fun st => k (pc + n) ls st S
  | .lxor => zll st zlxor fun st => k (pc + n) ls st S
  | .lshl => zli st zlshl fun st => k (pc + n) ls st S
  | .lshr => zli st zlshr fun st => k (pc + n) ls st S
  | .lushr => zli st zlushr fun st => k (pc + n) ls st S
  | .lcmp => (match st with
    | .inr (.inl y) :: .inr (.inl x) :: r => k (pc + n) ls (vi (zcmp x y) :: r) S
    | _ => none)
  | .i2l => zone st (fun x => vl x) fun st => k (pc + n) ls st S
  | .i2c => zone st (fun x => vi (x % 65536)) fun st => k (pc + n) ls st S
  | .i2b => zone st (fun x => vi ((x + 128) % 256 - 128)) fun st => k (pc + n) ls st S
  | .l2i => zoneL st (fun x => vi (z32 x)) fun st => k (pc + n) ls st S
  | .dup => (match st with
    | .inl x :: r => k (pc + n) ls (vi x :: vi x :: r) S
    | .inr (.inr (.inl x)) :: r => k (pc + n) ls (vr x :: vr x :: r) S
    | _ => none)
  | .dup2 => (match st with
    | .inl x :: .inr (.inr (.inl y)) :: r => k (pc + n) ls (vi x :: vr y :: vi x :: vr y :: r) S
    | .inr (.inl x) :: r => k (pc + n) ls (vl x :: vl x :: r) S
    | _ => none)
  | .pop => (match st with
    | .inl _ :: r => k (pc + n) ls r S
    | .inr (.inr _) :: r => k (pc + n) ls r S
    | _ => none)
  | .goto _ => k a ls st S
  | .ifCond cd _ => (match st with
    | .inl x :: r => zif cd x 0 (k a ls r S) (k (pc + n) ls r S)
    | _ => none)
  | .if_icmp cd _ => (match st with
    | .inl y :: .inl x :: r => zif cd x y (k a ls r S) (k (pc + n) ls r S)
    | _ => none)
  | .ifnonnull _ => (match st with
    | .inr (.inr (.inl x)) :: r => if x = 0 then k (pc + n) ls r S else k a ls r S
    | _ => none)
  | .if_acmp .ne _ => (match st with
    | .inr (.inr (.inl y)) :: .inr (.inr (.inl x)) :: r => zchk ((x = 0 ∨ 3 ≤ x) ∧ (y = 0 ∨ 3 ≤ y)) (if x = y then k (pc + n) ls r S else k a ls r S)
    | _ => none)
  | .tableswitch d lo hi offs => (match st with
    | .inl x :: r => k (zsw pc (.tableswitch d lo hi offs) x) ls r S
    | _ => none)
  | .lookupswitch d ps => (match st with
    | .inl x :: r => k (zsw pc (.lookupswitch d ps) x) ls r S
    | _ => none)
  | .iaload => zald 0 40 0 st S fun st => k (pc + n) ls st S
  | .laload => zald 1 1 1 st S fun st => k (pc + n) ls st S
  | .caload => zald 2 2 0 st S fun st => k (pc + n) ls st S
  | .baload => zald 3 4 0 st S fun st => k (pc + n) ls st S
  | .aaload => zald a a 5 st S fun st => k (pc + n) ls st S
  | .iastore => (match st with
    | .inl v :: .inl j :: .inr (.inr (.inl x)) :: r => zchk ((zk S x).1 = 0 ∧ 0 ≤ j ∧ j < (zk S x).2) (k (pc + n) ls r (zput S x j v))
    | _ => none)
  | .lastore => (match st with
    | .inr (.inl v) :: .inl j :: .inr (.inr (.inl x)) :: r => zchk ((zk S x).1 = 1 ∧ 0 ≤ j ∧ j < (zk S x).2) (k (pc + n) ls r (zput S x j v))
    | _ => none)
  | .castore => (match st with
    | .inl v :: .inl j :: .inr (.inr (.inl x)) :: r => zchk ((zk S x).1 = 2 ∧ 0 ≤ j ∧ j < (zk S x).2) (k (pc + n) ls r (zput S x j (v % 65536)))
    | _ => none)
  | .bastore => (match st with
    | .inl v :: .inl j :: .inr (.inr (.inl x)) :: r => (match a with
      | 3 => zchk ((zk S x).1 = 3 ∧ 0 ≤ j ∧ j < (zk S x).2) (k (pc + n) ls r (zput S x j ((v + 128) % 256 - 128)))
      | _ => zchk ((zk S x).1 = 4 ∧ 0 ≤ j ∧ j < (zk S x).2 ∧ 0 ≤ v ∧ v ≤ 1) (k (pc + n) ls r (zput S x j v)))
    | _ => none)
  | .aastore => (match st with
    | .inr (.inr (.inl v)) :: .inl j :: .inr (.inr (.inl x)) :: r => zchk ((zk S x).1 = a ∧ 0 ≤ j ∧ j < (zk S x).2 ∧ (zk S v).1 = b) (k (pc + n) ls r (zput S x j v))
    | _ => none)
  | .arraylength => (match st with
    | .inr (.inr (.inl x)) :: r => zchk ((zk S x).1 ≤ 19 ∨ (zk S x).1 = 40) (k (pc + n) ls (vi (zk S x).2 :: r) S)
    | _ => none)
  | .getfield _ => (match st with
    | .inr (.inr (.inl x)) :: r => zchk ((zk S x).1 = 20 + a) (k (pc + n) ls (ztag c (zm S x (b : Int)) :: r) S)
    | _ => none)
  | .putfield _ => (match st with
    | v :: .inr (.inr (.inl x)) :: r => zchk ((zk S x).1 = 20 + a) (zputf c v fun z => k (pc + n) ls r (zput S x (b : Int) z))
    | _ => none)
  | .new _ => (match c with
    | 0 => k (pc + n) ls (vr (zn S : Int) :: st) (zalloc S (20 + a) 0 b)
    | _ => (bif Nat.ble (zcat st) 8 then some (.inr a, zbump S) else none))
  | .newarray t => (match st with
    | .inl x :: r => zchk (0 ≤ x ∧ x ≤ 1000000) (k (pc + n) ls (vr (zn S : Int) :: r) (zalloc S (zaty t) x x.toNat))
    | _ => none)
  | .anewarray _ => (match st with
    | .inl x :: r => zchk (0 ≤ x ∧ x ≤ 1000000) (k (pc + n) ls (vr (zn S : Int) :: r) (zalloc S a x x.toNat))
    | _ => none)
  | .multianewarray _ _ => (match st with
    | .inl y :: .inl x :: r => zchk (0 ≤ x ∧ x ≤ 1000 ∧ 0 ≤ y ∧ y ≤ 1000) (k (pc + n) ls (vr (zn S : Int) :: r) (zmulti S a b x.toNat y.toNat))
    | _ => none)
  | .invokestatic _ => (match c with
    | 0 => (bif Nat.ble (zcat (st.drop b)) 8 && Nat.ble b st.length then zcall (K a (st.take b).reverse S) (fun v S => k (pc + n) ls (zpush v (st.drop b)) S) (fun e S => zthr hs pc ls k e S) else none)
    | 1 => (bif Nat.ble (zcat (st.drop b)) 8 && Nat.ble b st.length then zretn (fun v S => k (pc + n) ls (zpush v (st.drop b)) S) (K a (st.take b).reverse S) else none)
    | 2 => zmm st (fun x y => if x < y then y else x) fun st => k (pc + n) ls st S
    | 3 => zmm st (fun x y => if y < x then y else x) fun st => k (pc + n) ls st S
    | _ => zml st (fun x y => if y < x then y else x) fun st => k (pc + n) ls st S)
  | .invokevirtual _ => (match st.drop b with
    | .inr (.inr (.inl x)) :: r => (bif Nat.ble (zcat r) 8 && Nat.ble b st.length then
        zchk ((zk S x).1 = 20 + c) (zcall (K a (vr x :: (st.take b).reverse) S) (fun v S => k (pc + n) ls (zpush v r) S) fun e S => zthr hs pc ls k e S) else none)
    | _ => none)
  | .invokespecial _ => (match c with
    | 0 => (match st with
      | .inr (.inr (.inl x)) :: r => (bif Nat.ble (zcat r) 8 then zchk (x ≠ 0) (k (pc + n) ls r S) else none)
      | _ => none)
    | _ => (match st.drop b with
      | .inr (.inr (.inl x)) :: r => (bif Nat.ble (zcat r) 8 && Nat.ble b st.length then
          zchk (x ≠ 0) (zretn (fun v S => zvoid v (k (pc + n) ls r S)) (K a (vr x :: (st.take b).reverse) S)) else none)
      | _ => none))
  | .ireturn => (match st with
    | [.inl v] => zrng rt v (some (.inl (some (vi v)), S))
    | _ => none)
  | .lreturn => (match st with
    | [.inr (.inl v)] => some (.inl (some (vl v)), S)
    | _ => none)
  | .areturn => (match st with
    | [.inr (.inr (.inl v))] => some (.inl (some (vr v)), S)
    | _ => none)
  | .return_ => (match st with
    | [] => some (.inl none, S)
    | _ => none)
  | _ => none
/-- the method's frame, as far as the fuel goes -/
def zrun (T : Nat → zE) (K : Nat → List zV → zS → zR) (hs : List (Nat × Nat × Nat × Nat)) (rt : Nat) : Nat → zC
  | 0 => fun _ _ _ _ => none
  | f + 1 => fun pc ls st S => zstep K hs rt (T pc).1 (T pc).2.1 (T pc).2.2.2.1 (T pc).2.2.2.2.1 (T pc).2.2.2.2.2 pc (zmask (T pc).2.2.1 ls) st S (zrun T K hs rt f)
