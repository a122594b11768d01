/-! A small machine of our own, over numbered methods: cells by small numbers, frames as lists; what it runs, the JVM runs (the part behind this one). -/
abbrev mC : Type := (Nat × vp_A) ⊕ (Nat × List Value)
abbrev MH : Type := Nat × Nat × (Nat → Option mC)
abbrev ML : Type := List (Option Value)
abbrev MF : Type := Nat × ML × List Value
abbrev MR : Type := Option Value × MH
abbrev SR : Type := (MF × MH) ⊕ ((Nat × List Value × MF) ⊕ Option Value)
/-- the mark of a long's second half -/
abbrev mSec : Option Value := some (.retAddr 0)
def nx (pc : Nat) (lo : ML) (st : List Value) (h : MH) : Option SR := some (.inl ((pc, lo, st), h))
def jm (pc : Nat) (off : Int) (lo : ML) (st : List Value) (h : MH) : Option SR := if 0 ≤ (pc : Int) + off then nx ((pc : Int) + off).toNat lo st h else none
def ldI (pc : Nat) (k : Nat) (lo : ML) (st : List Value) (h : MH) : Option SR := match lo[k]? with
  | some (some (.int x)) => nx pc lo (.int x :: st) h
  | _ => none
def ldJ (pc : Nat) (k : Nat) (lo : ML) (st : List Value) (h : MH) : Option SR := match lo[k]? with
  | some (some (.long x)) => if lo[k + 1]? = some mSec then nx pc lo (.long x :: st) h else none
  | _ => none
def ldA (pc : Nat) (k : Nat) (lo : ML) (st : List Value) (h : MH) : Option SR := match lo[k]? with
  | some (some (.ref x)) => nx pc lo (.ref x :: st) h
  | _ => none
def stI (pc : Nat) (k : Nat) (lo : ML) (st : List Value) (h : MH) : Option SR := match st with
  | .int x :: r => if k < lo.length then nx pc (lo.set k (some (.int x))) r h else none
  | _ => none
def stJ (pc : Nat) (k : Nat) (lo : ML) (st : List Value) (h : MH) : Option SR := match st with
  | .long x :: r => if k + 1 < lo.length then nx pc ((lo.set k (some (.long x))).set (k + 1) mSec) r h else none
  | _ => none
def stA (pc : Nat) (k : Nat) (lo : ML) (st : List Value) (h : MH) : Option SR := match st with
  | .ref x :: r => if k < lo.length then nx pc (lo.set k (some (.ref x))) r h else none
  | _ => none
def inc (pc : Nat) (k : Nat) (n : Int) (lo : ML) (st : List Value) (h : MH) : Option SR := match lo[k]? with
  | some (some (.int x)) => nx pc (lo.set k (some (.int (x + Int32.ofInt n)))) st h
  | _ => none
def ar1 (f : Int32 → Int32) (pc : Nat) (lo : ML) (st : List Value) (h : MH) : Option SR := match st with
  | .int x :: r => nx pc lo (.int (f x) :: r) h
  | _ => none
def ar2 (f : Int32 → Int32 → Int32) (pc : Nat) (lo : ML) (st : List Value) (h : MH) : Option SR := match st with
  | .int y :: .int x :: r => nx pc lo (.int (f x y) :: r) h
  | _ => none
def al2 (f : Int64 → Int64 → Int64) (pc : Nat) (lo : ML) (st : List Value) (h : MH) : Option SR := match st with
  | .long y :: .long x :: r => nx pc lo (.long (f x y) :: r) h
  | _ => none
def als (f : Int64 → Int32 → Int64) (pc : Nat) (lo : ML) (st : List Value) (h : MH) : Option SR := match st with
  | .int y :: .long x :: r => nx pc lo (.long (f x y) :: r) h
  | _ => none
def cb (k : ClassFile.Cond) (x y : Int32) : Bool := match k with
  | .eq => decide (x = y)
  | .ne => decide (¬ x = y)
  | .lt => decide (x < y)
  | .ge => decide (y ≤ x)
  | .gt => decide (y < x)
  | .le => decide (x ≤ y)
def br1 (k : ClassFile.Cond) (pc : Nat) (off : Int) (lo : ML) (st : List Value) (h : MH) : Option SR := match st with
  | .int x :: r => if 0 ≤ (pc : Int) + off then (if cb k x 0 = true then nx ((pc : Int) + off).toNat lo r h else nx (pc + 3) lo r h) else none
  | _ => none
def br2 (k : ClassFile.Cond) (pc : Nat) (off : Int) (lo : ML) (st : List Value) (h : MH) : Option SR := match st with
  | .int y :: .int x :: r => if 0 ≤ (pc : Int) + off then (if cb k x y = true then nx ((pc : Int) + off).toNat lo r h else nx (pc + 3) lo r h) else none
  | _ => none
def swL (dflt : Int) (ps : Array (Int × Int)) (pc : Nat) (lo : ML) (st : List Value) (h : MH) : Option SR := match st with
  | .int x :: r => if (ps.toList.zip (ps.toList.drop 1)).all (fun (a, next) => a.1 < next.1) = true then jm pc (Op.lookupswitch.offset ps.toList dflt x.toInt) lo r h else none
  | _ => none
def swT (dflt lw hi : Int) (offs : Array Int) (pc : Nat) (lo : ML) (st : List Value) (h : MH) : Option SR := match st with
  | .int x :: r => if x.toInt < lw ∨ hi < x.toInt then jm pc dflt lo r h else (match offs[(x.toInt - lw).toNat]? with
    | some off => jm pc off lo r h
    | none => none)
  | _ => none
def du1 (pc : Nat) (lo : ML) (st : List Value) (h : MH) : Option SR := match st with
  | v :: r => if v.category = 1 then nx pc lo (v :: v :: r) h else none
  | _ => none
def dux1 (pc : Nat) (lo : ML) (st : List Value) (h : MH) : Option SR := match st with
  | v :: w :: r => if v.category = 1 ∧ w.category = 1 then nx pc lo (v :: w :: v :: r) h else none
  | _ => none
def dux2 (pc : Nat) (lo : ML) (st : List Value) (h : MH) : Option SR := match st with
  | v :: w :: u :: r => if v.category = 1 ∧ w.category = 1 ∧ u.category = 1 then nx pc lo (v :: w :: u :: v :: r) h else none
  | _ => none
def du2 (pc : Nat) (lo : ML) (st : List Value) (h : MH) : Option SR := match st with
  | v :: w :: r => if v.category = 1 ∧ w.category = 1 then nx pc lo (v :: w :: v :: w :: r) h else none
  | _ => none
def po1 (pc : Nat) (lo : ML) (st : List Value) (h : MH) : Option SR := match st with
  | v :: r => if v.category = 1 then nx pc lo r h else none
  | _ => none
def i2lS (pc : Nat) (lo : ML) (st : List Value) (h : MH) : Option SR := match st with
  | .int x :: r => nx pc lo (.long x.toInt64 :: r) h
  | _ => none
def l2iS (pc : Nat) (lo : ML) (st : List Value) (h : MH) : Option SR := match st with
  | .long x :: r => nx pc lo (.int x.toInt32 :: r) h
  | _ => none
def lcmpS (pc : Nat) (lo : ML) (st : List Value) (h : MH) : Option SR := match st with
  | .long y :: .long x :: r => nx pc lo (.int (lg_cmp x y) :: r) h
  | _ => none
def dvS (f : Int32 → Int32 → Int32) (pc : Nat) (lo : ML) (st : List Value) (h : MH) : Option SR := match st with
  | .int y :: .int x :: r => if y = 0 then none else nx pc lo (.int (f x y) :: r) h
  | _ => none
/-- how long an instruction is -/
def sw : Instr → Bool
  | .lookupswitch _ _ => true
  | .tableswitch _ _ _ _ => true
  | _ => false
def ln : Instr → Nat
  | .aload _ => 2 | .iload _ => 2 | .lload _ => 2 | .astore _ => 2 | .istore _ => 2 | .lstore _ => 2 | .bipush _ => 2 | .ldc _ => 2 | .newarray _ => 2
  | .sipush _ => 3 | .getfield _ => 3 | .putfield _ => 3 | .getstatic _ => 3 | .iinc _ _ => 3 | .if_icmp _ _ => 3 | .ifCond _ _ => 3 | .if_acmp _ _ => 3 | .ifnull _ => 3 | .ifnonnull _ => 3 | .goto _ => 3
  | .invokespecial _ => 3 | .invokestatic _ => 3 | .invokevirtual _ => 3 | .new _ => 3 | .anewarray _ => 3 | .ldc2_w _ => 3 | .ldc_w _ => 3 | .checkcast _ => 3
  | _ => 1
/-- a step that looks at the frame alone -/
def stpP (i : Instr) (pc : Nat) (lo : ML) (st : List Value) (h : MH) : Option SR := match i with
  | .iconst n => nx (pc + 1) lo (.int (Int32.ofInt n) :: st) h
  | .bipush n => nx (pc + 2) lo (.int (Int8.ofInt n).toInt32 :: st) h
  | .sipush n => nx (pc + 3) lo (.int (Int16.ofInt n).toInt32 :: st) h
  | .lconst n => nx (pc + 1) lo (.long (Int64.ofNat n) :: st) h
  | .iload_n k => ldI (pc + 1) k lo st h
  | .iload k => ldI (pc + 2) k lo st h
  | .lload_n k => ldJ (pc + 1) k lo st h
  | .lload k => ldJ (pc + 2) k lo st h
  | .aload_n k => ldA (pc + 1) k lo st h
  | .aload k => ldA (pc + 2) k lo st h
  | .istore_n k => stI (pc + 1) k lo st h
  | .istore k => stI (pc + 2) k lo st h
  | .lstore_n k => stJ (pc + 1) k lo st h
  | .lstore k => stJ (pc + 2) k lo st h
  | .astore_n k => stA (pc + 1) k lo st h
  | .astore k => stA (pc + 2) k lo st h
  | .iinc k n => inc (pc + 3) k n lo st h
  | .iadd => ar2 (fun x y => x + y) (pc + 1) lo st h
  | .isub => ar2 (fun x y => x - y) (pc + 1) lo st h
  | .imul => ar2 (fun x y => x * y) (pc + 1) lo st h
  | .iand => ar2 (fun x y => x &&& y) (pc + 1) lo st h
  | .ior => ar2 (fun x y => x ||| y) (pc + 1) lo st h
  | .ixor => ar2 (fun x y => x ^^^ y) (pc + 1) lo st h
  | .ishl => ar2 (fun x y => x <<< (y &&& 31)) (pc + 1) lo st h
  | .ishr => ar2 (fun x y => x >>> (y &&& 31)) (pc + 1) lo st h
  | .iushr => ar2 (fun x y => (x.toUInt32 >>> (y.toUInt32 &&& Int32.toUInt32 31)).toInt32) (pc + 1) lo st h
  | .idiv => dvS (fun x y => x / y) (pc + 1) lo st h
  | .irem => dvS (fun x y => x - x / y * y) (pc + 1) lo st h
  | .ineg => ar1 (fun x => -x) (pc + 1) lo st h
  | .ladd => al2 (fun x y => x + y) (pc + 1) lo st h
  | .lsub => al2 (fun x y => x - y) (pc + 1) lo st h
  | .lmul => al2 (fun x y => x * y) (pc + 1) lo st h
  | .land => al2 (fun x y => x &&& y) (pc + 1) lo st h
  | .lor => al2 (fun x y => x ||| y) (pc + 1) lo st h
  | .lxor => al2 (fun x y => x ^^^ y) (pc + 1) lo st h
  | .lushr => als (fun x y => (x.toUInt64 >>> (y.toInt64.toUInt64 &&& Int64.toUInt64 63)).toInt64) (pc + 1) lo st h
  | .lshl => als (fun x y => x <<< (y.toInt64 &&& 63)) (pc + 1) lo st h
  | .lshr => als (fun x y => x >>> (y.toInt64 &&& 63)) (pc + 1) lo st h
  | .lcmp => lcmpS (pc + 1) lo st h
  | .i2l => i2lS (pc + 1) lo st h
  | .l2i => l2iS (pc + 1) lo st h
  | .dup => du1 (pc + 1) lo st h
  | .dup_x1 => dux1 (pc + 1) lo st h
  | .dup_x2 => dux2 (pc + 1) lo st h
  | .dup2 => du2 (pc + 1) lo st h
  | .pop => po1 (pc + 1) lo st h
  | .goto off => jm pc off lo st h
  | .ifCond k off => br1 k pc off lo st h
  | .if_icmp k off => br2 k pc off lo st h
  | .lookupswitch dflt ps => swL dflt ps pc lo st h
  | .tableswitch dflt lw hi offs => swT dflt lw hi offs pc lo st h
  | _ => none
def fgetv (h : MH) (a ci k : Nat) : Option Value := match h.2.2 a with
  | some (.inr (c, fs)) => if c = ci then fs[k]? else none
  | _ => none
def fputh (h : MH) (a ci k : Nat) (ty : FieldType) (v : Value) : Option MH := match h.2.2 a with
  | some (.inr (c, fs)) => if c = ci ∧ k < fs.length ∧ narrow ty v = v ∧ fits ty v = true then some (h.1, h.2.1, va_up h.2.2 a (some (.inr (c, fs.set k v)))) else none
  | _ => none
/-- arrays: sort 0 int, 1 boolean, 2 long, 3 byte; from 10 on of references -/
def ageti (h : MH) (t a : Nat) (i : Int32) : Option Int32 := match h.2.2 a with
  | some (.inl (t', n, .inl f)) => if t' = t ∧ ¬ (i < 0 ∨ n ≤ i.toNatClampNeg) then some (f i.toNatClampNeg) else none
  | _ => none
def aputi (h : MH) (t a : Nat) (i x : Int32) : Option MH := match h.2.2 a with
  | some (.inl (t', n, .inl f)) => if t' = t ∧ ¬ (i < 0 ∨ n ≤ i.toNatClampNeg) ∧ a ≠ 0 then some (h.1, h.2.1, va_up h.2.2 a (some (.inl (t', n, .inl (upd f i.toNatClampNeg x))))) else none
  | _ => none
def agetl (h : MH) (t a : Nat) (i : Int32) : Option Int64 := match h.2.2 a with
  | some (.inl (t', n, .inr (.inl f))) => if t' = t ∧ ¬ (i < 0 ∨ n ≤ i.toNatClampNeg) then some (f i.toNatClampNeg) else none
  | _ => none
def aputl (h : MH) (t a : Nat) (i : Int32) (x : Int64) : Option MH := match h.2.2 a with
  | some (.inl (t', n, .inr (.inl f))) => if t' = t ∧ ¬ (i < 0 ∨ n ≤ i.toNatClampNeg) ∧ a ≠ 0 then some (h.1, h.2.1, va_up h.2.2 a (some (.inl (t', n, .inr (.inl (vp_updL f i.toNatClampNeg x)))))) else none
  | _ => none
def agetr (h : MH) (a : Nat) (i : Int32) : Option (Option Nat) := match h.2.2 a with
  | some (.inl (t', n, .inr (.inr (.inr (.inr f))))) => if 10 ≤ t' ∧ ¬ (i < 0 ∨ n ≤ i.toNatClampNeg) then some (f i.toNatClampNeg) else none
  | _ => none
/-- the class of an object -/
def clsOf (h : MH) (a : Nat) : Option Nat := match h.2.2 a with
  | some (.inr (c, _)) => some c
  | _ => none
/-- sort 10 + ci: an array of objects of class ci -/
def aputr (h : MH) (a : Nat) (i : Int32) (v : Nat) : Option MH := match h.2.2 a with
  | some (.inl (t', n, .inr (.inr (.inr (.inr f))))) => if 10 ≤ t' ∧ clsOf h v = some (t' - 10) ∧ ¬ (i < 0 ∨ n ≤ i.toNatClampNeg) ∧ a ≠ 0 then some (h.1, h.2.1, va_up h.2.2 a (some (.inl (t', n, .inr (.inr (.inr (.inr (va_up f i.toNatClampNeg (some v)))))))) ) else none
  | _ => none
def alenv (h : MH) (a : Nat) : Option Int32 := match h.2.2 a with
  | some (.inl (_, n, _)) => some (Int32.ofNat n)
  | _ => none
def mkobj (h : MH) (ci N : Nat) (fs : List Value) : MH := (h.1 + 1, h.2.1 + N, va_up h.2.2 h.1 (some (.inr (ci, fs))))
def mkarr (h : MH) (t n : Nat) (x : (Nat → Int32) ⊕ (Nat → Int64) ⊕ (Nat → UInt32) ⊕ (Nat → UInt64) ⊕ (Nat → Option Nat)) : MH := (h.1 + 1, h.2.1 + n, va_up h.2.2 h.1 (some (.inl (t, n, x))))
def cats (l : List Value) : Nat := (l.map fun v => v.category).sum
