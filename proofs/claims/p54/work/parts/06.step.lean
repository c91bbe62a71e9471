/-! calls are measured in the law's methods alone -/
def cI (μ a : Nat) (I : Nat → Nat → Int32) : Nat → Nat → Int32 := bif Nat.ble 318 μ then ups I iCRD 0 (I iCRD 0 - Int32.ofNat (cK a)) else I
def cG (μ a : Nat) (I : Nat → Nat → Int32) : Bool := bif Nat.ble 318 μ then decide (Int32.ofNat (cK a) ≤ I iCRD 0) else true
def cIn (a : Nat) (M : Mm) : Mm := bif Nat.ble 318 a then (M.1, M.2.1, M.2.2.1, ups M.2.2.2.1 iCRD 0 (Int32.ofNat (cK a)), M.2.2.2.2.1, M.2.2.2.2.2) else M
def cOut (a : Nat) (M M' : Mm) : Mm := bif Nat.ble 318 a then (M'.1, M'.2.1, M'.2.2.1, ups M'.2.2.2.1 iCRD 0 (M.2.2.2.1 iCRD 0), M'.2.2.2.2.1, M'.2.2.2.2.2) else M'
/-! one step, and runs -/
def lk (o : Option Value) (f : Value → Ac) : Ac := match o with
  | some v => f v
  | none => hl
def fI (v : Value) (f : Int32 → Ac) : Ac := match v with
  | .int x => f x
  | _ => hl
def fL (v : Value) (f : Int64 → Ac) : Ac := match v with
  | .long x => f x
  | _ => hl
def fF (v : Value) (f : UInt32 → Ac) : Ac := match v with
  | .float x => f x
  | _ => hl
def fD (v : Value) (f : UInt64 → Ac) : Ac := match v with
  | .double x => f x
  | _ => hl
def fR (v : Value) (f : Nat → Ac) : Ac := match v with
  | .ref x => f x
  | _ => hl
def f1 (st : List Value) (f : Value → List Value → Ac) : Ac := match st with
  | v :: r => f v r
  | _ => hl
def f2 (st : List Value) (f : Value → Value → List Value → Ac) : Ac := match st with
  | v :: w :: r => f v w r
  | _ => hl
def f3 (st : List Value) (f : Value → Value → Value → List Value → Ac) : Ac := match st with
  | v :: w :: u :: r => f v w u r
  | _ => hl
/-- two ints off the operands -/
def i2 (st : List Value) (f : Int32 → Int32 → List Value → Ac) : Ac := f2 st (fun v w r => fI v (fun y => fI w (fun x => f x y r)))
def i1 (st : List Value) (f : Int32 → List Value → Ac) : Ac := f1 st (fun v r => fI v (fun x => f x r))
def l2 (st : List Value) (f : Int64 → Int64 → List Value → Ac) : Ac := f2 st (fun v w r => fL v (fun y => fL w (fun x => f x y r)))
def l1 (st : List Value) (f : Int64 → List Value → Ac) : Ac := f1 st (fun v r => fL v (fun x => f x r))
def cat1 (v : Value) : Bool := match v with
  | .long _ => false
  | .double _ => false
  | .retAddr _ => false
  | _ => true
def orf (o : Option Nat) : Value := match o with
  | some q => .ref q
  | none => .null
def swt (pc : Nat) (d lo hi : Int) (offs : Array Int) (x : Int32) : Nat := if x.toInt < lo ∨ hi < x.toInt then ((pc : Int) + d).toNat else ((pc : Int) + (offs[(x.toInt - lo).toNat]?).getD 0).toNat
def swg (pc : Nat) (d lo hi : Int) (offs : Array Int) (x : Int32) : Bool := if x.toInt < lo ∨ hi < x.toInt then decide (0 ≤ (pc : Int) + d) else decide (0 ≤ (pc : Int) + (offs[(x.toInt - lo).toNat]?).getD 0) && (offs[(x.toInt - lo).toNat]?).isSome
def ok32 (r : UInt32) : Bool := decide (r &&& 0x7fffffff ≤ 0x7f800000)
def ok64 (r : UInt64) : Bool := decide (r &&& 0x7fffffffffffffff ≤ 0x7ff0000000000000)
def icc (o : ClassFile.Cond) (x y : Int32) : Bool := match o with
  | .eq => decide (x = y)
  | .ne => decide (x ≠ y)
  | .lt => decide (x < y)
  | .ge => decide (y ≤ x)
  | .gt => decide (y < x)
  | .le => decide (x ≤ y)
/-- Math.floorDiv, as its code has it -/
def fdv (a b : Int32) : Int32 := if (a ^^^ b) < 0 then if ((a / b) * b) = a then a / b else (a / b) - 1 else a / b
def csm : List Value → Nat
  | [] => 0
  | v :: r => v.category + csm r
def stA (μ pc : Nat) (ls st : List Value) (n : Nat) (S : Nat → Nat × Nat) (R : Nat → Nat → Option Nat) (I : Nat → Nat → Int32) (J : Nat → Nat → Int64) (D : Nat → Nat → UInt64) (i : Instr) (len : Nat) (fm tm : List Bool) (a b c : Nat) (k : Int32) : Ac :=
  match i with
  | .iconst _ => go μ (pc + len) (mk fm ls) (.int k :: st) (n, S, R, I, J, D)
  | .bipush _ => go μ (pc + len) (mk fm ls) (.int k :: st) (n, S, R, I, J, D)
  | .sipush _ => go μ (pc + len) (mk fm ls) (.int k :: st) (n, S, R, I, J, D)
  | .lconst z => go μ (pc + len) (mk fm ls) (.long (Int64.ofNat z.val) :: st) (n, S, R, I, J, D)
  | .fconst _ => bif Nat.beq a 0 then go μ (pc + len) (mk fm ls) (.float FP.fconst0 :: st) (n, S, R, I, J, D) else hl
  | .ldc _ => go μ (pc + len) (mk fm ls) ((bif Nat.beq a 0 then .int k else .ref b) :: st) (n, S, R, I, J, D)
  | .ldc_w _ => go μ (pc + len) (mk fm ls) ((bif Nat.beq a 0 then .int k else .ref b) :: st) (n, S, R, I, J, D)
  | .ldc2_w _ => go μ (pc + len) (mk fm ls) (.long (lcs b) :: st) (n, S, R, I, J, D)
  | .iload_n z => lk ls[z.val]? (fun v => fI v (fun x => go μ (pc + len) (mk fm ls) (.int x :: st) (n, S, R, I, J, D)))
  | .iload z => lk ls[z]? (fun v => fI v (fun x => go μ (pc + len) (mk fm ls) (.int x :: st) (n, S, R, I, J, D)))
  | .lload_n z => lk ls[z.val]? (fun v => fL v (fun x => go μ (pc + len) (mk fm ls) (.long x :: st) (n, S, R, I, J, D)))
  | .lload z => lk ls[z]? (fun v => fL v (fun x => go μ (pc + len) (mk fm ls) (.long x :: st) (n, S, R, I, J, D)))
  | .dload z => lk ls[z]? (fun v => fD v (fun x => go μ (pc + len) (mk fm ls) (.double x :: st) (n, S, R, I, J, D)))
  | .aload_n z => lk ls[z.val]? (fun v => fR v (fun x => go μ (pc + len) (mk fm ls) (.ref x :: st) (n, S, R, I, J, D)))
  | .aload z => lk ls[z]? (fun v => fR v (fun x => go μ (pc + len) (mk fm ls) (.ref x :: st) (n, S, R, I, J, D)))
  | .istore_n z => i1 st (fun x r => gd (Nat.blt z.val ls.length) μ (pc + len) (mk fm (sto ls z.val (.int x))) r (n, S, R, I, J, D))
  | .istore z => i1 st (fun x r => gd (Nat.blt z ls.length) μ (pc + len) (mk fm (sto ls z (.int x))) r (n, S, R, I, J, D))
  | .lstore_n z => l1 st (fun x r => gd (Nat.blt (z.val + 1) ls.length) μ (pc + len) (mk fm (sto2 ls z.val (.long x))) r (n, S, R, I, J, D))
  | .lstore z => l1 st (fun x r => gd (Nat.blt (z + 1) ls.length) μ (pc + len) (mk fm (sto2 ls z (.long x))) r (n, S, R, I, J, D))
  | .dstore z => f1 st (fun v r => fD v (fun x => gd (Nat.blt (z + 1) ls.length) μ (pc + len) (mk fm (sto2 ls z (.double x))) r (n, S, R, I, J, D)))
  | .astore_n z => f1 st (fun v r => fR v (fun x => gd (Nat.blt z.val ls.length) μ (pc + len) (mk fm (sto ls z.val (.ref x))) r (n, S, R, I, J, D)))
  | .astore z => f1 st (fun v r => fR v (fun x => gd (Nat.blt z ls.length) μ (pc + len) (mk fm (sto ls z (.ref x))) r (n, S, R, I, J, D)))
  | .iinc z _ => lk ls[z]? (fun v => fI v (fun x => go μ (pc + len) (mk fm (sto ls z (.int (x + k)))) st (n, S, R, I, J, D)))
  | .iadd => i2 st (fun x y r => go μ (pc + len) (mk fm ls) (.int (x + y) :: r) (n, S, R, I, J, D))
  | .isub => i2 st (fun x y r => go μ (pc + len) (mk fm ls) (.int (x - y) :: r) (n, S, R, I, J, D))
  | .imul => i2 st (fun x y r => go μ (pc + len) (mk fm ls) (.int (x * y) :: r) (n, S, R, I, J, D))
  | .idiv => i2 st (fun x y r => gd (decide (¬ y = 0)) μ (pc + len) (mk fm ls) (.int (x / y) :: r) (n, S, R, I, J, D))
  | .irem => i2 st (fun x y r => gd (decide (¬ y = 0)) μ (pc + len) (mk fm ls) (.int (x - x / y * y) :: r) (n, S, R, I, J, D))
  | .ineg => i1 st (fun x r => go μ (pc + len) (mk fm ls) (.int (-x) :: r) (n, S, R, I, J, D))
  | .iand => i2 st (fun x y r => go μ (pc + len) (mk fm ls) (.int (x &&& y) :: r) (n, S, R, I, J, D))
  | .ior => i2 st (fun x y r => go μ (pc + len) (mk fm ls) (.int (x ||| y) :: r) (n, S, R, I, J, D))
  | .ixor => i2 st (fun x y r => go μ (pc + len) (mk fm ls) (.int (x ^^^ y) :: r) (n, S, R, I, J, D))
  | .ishl => i2 st (fun x y r => go μ (pc + len) (mk fm ls) (.int (x <<< (y &&& 31)) :: r) (n, S, R, I, J, D))
  | .ishr => i2 st (fun x y r => go μ (pc + len) (mk fm ls) (.int (x >>> (y &&& 31)) :: r) (n, S, R, I, J, D))
  | .iushr => i2 st (fun x y r => go μ (pc + len) (mk fm ls) (.int ((x.toUInt32 >>> (y.toUInt32 &&& Int32.toUInt32 31)).toInt32) :: r) (n, S, R, I, J, D))
  | .ladd => l2 st (fun x y r => go μ (pc + len) (mk fm ls) (.long (x + y) :: r) (n, S, R, I, J, D))
  | .lsub => l2 st (fun x y r => go μ (pc + len) (mk fm ls) (.long (x - y) :: r) (n, S, R, I, J, D))
  | .lmul => l2 st (fun x y r => go μ (pc + len) (mk fm ls) (.long (x * y) :: r) (n, S, R, I, J, D))
  | .land => l2 st (fun x y r => go μ (pc + len) (mk fm ls) (.long (x &&& y) :: r) (n, S, R, I, J, D))
  | .lor => l2 st (fun x y r => go μ (pc + len) (mk fm ls) (.long (x ||| y) :: r) (n, S, R, I, J, D))
  | .lneg => l1 st (fun x r => go μ (pc + len) (mk fm ls) (.long (-x) :: r) (n, S, R, I, J, D))
  | .lshl => f2 st (fun v w r => fI v (fun y => fL w (fun x => go μ (pc + len) (mk fm ls) (.long (x <<< (y.toInt64 &&& 63)) :: r) (n, S, R, I, J, D))))
  | .lshr => f2 st (fun v w r => fI v (fun y => fL w (fun x => go μ (pc + len) (mk fm ls) (.long (x >>> (y.toInt64 &&& 63)) :: r) (n, S, R, I, J, D))))
  | .lushr => f2 st (fun v w r => fI v (fun y => fL w (fun x => go μ (pc + len) (mk fm ls) (.long ((x.toUInt64 >>> (y.toInt64.toUInt64 &&& Int64.toUInt64 63)).toInt64) :: r) (n, S, R, I, J, D))))
  | .lcmp => l2 st (fun x y r => go μ (pc + len) (mk fm ls) (.int (lg_cmp x y) :: r) (n, S, R, I, J, D))
  | .i2l => i1 st (fun x r => go μ (pc + len) (mk fm ls) (.long x.toInt64 :: r) (n, S, R, I, J, D))
  | .l2i => l1 st (fun x r => go μ (pc + len) (mk fm ls) (.int x.toInt32 :: r) (n, S, R, I, J, D))
  | .i2c => i1 st (fun x r => go μ (pc + len) (mk fm ls) (.int ((x.toUInt32 % 65536).toInt32) :: r) (n, S, R, I, J, D))
  | .i2d => i1 st (fun x r => go μ (pc + len) (mk fm ls) (.double (FP.i2d x) :: r) (n, S, R, I, J, D))
  | .i2f => i1 st (fun x r => go μ (pc + len) (mk fm ls) (.float (FP.i2f x) :: r) (n, S, R, I, J, D))
  | .f2d => f1 st (fun v r => fF v (fun x => gd (ok64 (FP.f2d x)) μ (pc + len) (mk fm ls) (.double (FP.f2d x) :: r) (n, S, R, I, J, D)))
  | .ddiv => f2 st (fun v w r => fD v (fun y => fD w (fun x => gd (ok64 (FP.ddiv x y)) μ (pc + len) (mk fm ls) (.double (FP.ddiv x y) :: r) (n, S, R, I, J, D))))
  | .fdiv => f2 st (fun v w r => fF v (fun y => fF w (fun x => gd (ok32 (FP.fdiv x y)) μ (pc + len) (mk fm ls) (.float (FP.fdiv x y) :: r) (n, S, R, I, J, D))))
  | .dcmp o => f2 st (fun v w r => fD v (fun y => fD w (fun x => go μ (pc + len) (mk fm ls) (.int (Op.cmpValue (FP.dcmp x y) o) :: r) (n, S, R, I, J, D))))
  | .dup => f1 st (fun v r => bif cat1 v then go μ (pc + len) (mk fm ls) (v :: v :: r) (n, S, R, I, J, D) else hl)
  | .dup2 => f2 st (fun v w r => bif cat1 v && cat1 w then go μ (pc + len) (mk fm ls) (v :: w :: v :: w :: r) (n, S, R, I, J, D) else hl)
  | .ifCond o _ => i1 st (fun x r => br (icc o x 0) μ a (pc + len) (mk tm ls) (mk fm ls) r (n, S, R, I, J, D))
  | .if_icmp o _ => i2 st (fun x y r => br (icc o x y) μ a (pc + len) (mk tm ls) (mk fm ls) r (n, S, R, I, J, D))
  | .ifnull _ => f1 st (fun v r => fR v (fun _ => go μ (pc + len) (mk fm ls) r (n, S, R, I, J, D)))
  | .goto _ => go μ a (mk tm ls) st (n, S, R, I, J, D)
  | .tableswitch d lo hi offs => i1 st (fun x r => gd (swg pc d lo hi offs x) μ (swt pc d lo hi offs x) (mk tm ls) r (n, S, R, I, J, D))
  | .iaload => f2 st (fun v w r => fI v (fun j => fR w (fun p =>
      bif Nat.beq (S p).1 20 then gd (Nat.blt p n && inb j (S p).2) μ (pc + len) (mk fm ls) (.int (I p j.toNatClampNeg) :: r) (n, S, R, I, J, D) else
      bif Nat.beq (S p).1 40 then gd (inb j (S p).2) μ (pc + len) (mk fm ls) (.int (sta p j.toNatClampNeg) :: r) (n, S, R, I, J, D) else
      bif Nat.beq (S p).1 41 then gd (decide (0 ≤ j) && decide (j < I iSCL 0)) μ (pc + len) (mk fm ls) (.int (I p j.toNatClampNeg) :: r) (n, S, R, I, J, D) else hl)))
  | .baload => f2 st (fun v w r => fI v (fun j => fR w (fun p => bif Nat.beq (S p).1 21 then gd (Nat.blt p n && inb j (S p).2) μ (pc + len) (mk fm ls) (.int (I p j.toNatClampNeg) :: r) (n, S, R, I, J, D) else bif Nat.beq (S p).1 44 then gd (inb j (S p).2) μ (pc + len) (mk fm ls) (.int (sta p j.toNatClampNeg) :: r) (n, S, R, I, J, D) else bif Nat.beq (S p).1 29 then gd (Nat.blt p n && inb j (S p).2) μ (pc + len) (mk fm ls) (.int (I p j.toNatClampNeg) :: r) (n, S, R, I, J, D) else hl)))
  | .caload => f2 st (fun v w r => fI v (fun j => fR w (fun p => bif Nat.beq (S p).1 22 then gd (Nat.blt p n && inb j (S p).2) μ (pc + len) (mk fm ls) (.int (I p j.toNatClampNeg) :: r) (n, S, R, I, J, D) else hl)))
  | .laload => f2 st (fun v w r => fI v (fun j => fR w (fun p => bif Nat.beq (S p).1 23 then gd (Nat.blt p n && inb j (S p).2) μ (pc + len) (mk fm ls) (.long (J p j.toNatClampNeg) :: r) (n, S, R, I, J, D) else hl)))
  | .daload => f2 st (fun v w r => fI v (fun j => fR w (fun p => bif Nat.beq (S p).1 24 then gd (Nat.blt p n && inb j (S p).2) μ (pc + len) (mk fm ls) (.double (D p j.toNatClampNeg) :: r) (n, S, R, I, J, D) else hl)))
  | .aaload => f2 st (fun v w r => fI v (fun j => fR w (fun p => bif (Nat.beq (S p).1 25 || (Nat.beq (S p).1 26 || Nat.beq (S p).1 27)) || (Nat.beq (S p).1 28 || Nat.beq (S p).1 30) then gd (Nat.blt p n && inb j (S p).2) μ (pc + len) (mk fm ls) (orf (R p j.toNatClampNeg) :: r) (n, S, R, I, J, D) else hl)))
  | .iastore => f3 st (fun u v w r => fI u (fun x => fI v (fun j => fR w (fun p => bif Nat.beq (S p).1 20 then gd (Nat.blt p n && inb j (S p).2) μ (pc + len) (mk fm ls) r (n, S, R, ups I p j.toNatClampNeg x, J, D) else hl))))
  | .bastore => f3 st (fun u v w r => fI u (fun x => fI v (fun j => fR w (fun p => bif Nat.beq (S p).1 21 then gd (Nat.blt p n && inb j (S p).2) μ (pc + len) (mk fm ls) r (n, S, R, ups I p j.toNatClampNeg (vp_nar .boolean x), J, D) else hl))))
  | .castore => f3 st (fun u v w r => fI u (fun x => fI v (fun j => fR w (fun p => bif Nat.beq (S p).1 22 then gd (Nat.blt p n && inb j (S p).2) μ (pc + len) (mk fm ls) r (n, S, R, ups I p j.toNatClampNeg (vp_nar .char x), J, D) else hl))))
  | .lastore => f3 st (fun u v w r => fL u (fun x => fI v (fun j => fR w (fun p => bif Nat.beq (S p).1 23 then gd (Nat.blt p n && inb j (S p).2) μ (pc + len) (mk fm ls) r (n, S, R, I, upsL J p j.toNatClampNeg x, D) else hl))))
  | .dastore => f3 st (fun u v w r => fD u (fun x => fI v (fun j => fR w (fun p => bif Nat.beq (S p).1 24 then gd (Nat.blt p n && inb j (S p).2) μ (pc + len) (mk fm ls) r (n, S, R, I, J, upR D p (va_up (D p) j.toNatClampNeg x)) else hl))))
  | .aastore => f3 st (fun u v w r => fR u (fun x => fI v (fun j => fR w (fun p => bif Nat.beq (S p).1 25 && Nat.beq (S x).1 5 then gd ((Nat.blt p n && Nat.blt x n) && inb j (S p).2) μ (pc + len) (mk fm ls) r (n, S, upR R p (va_up (R p) j.toNatClampNeg (some x)), I, J, D) else bif Nat.beq (S p).1 30 && Nat.beq (S x).1 43 then gd (Nat.blt p n && inb j (S p).2) μ (pc + len) (mk fm ls) r (n, S, upR R p (va_up (R p) j.toNatClampNeg (some x)), I, J, D) else hl))))
  | .arraylength => f1 st (fun v r => fR v (fun p =>
      bif Nat.ble 20 (S p).1 && Nat.ble (S p).1 30 then gd (Nat.blt p n) μ (pc + len) (mk fm ls) (.int (Int32.ofNat (S p).2) :: r) (n, S, R, I, J, D) else
      bif Nat.beq (S p).1 40 || Nat.beq (S p).1 44 then go μ (pc + len) (mk fm ls) (.int (Int32.ofNat (S p).2) :: r) (n, S, R, I, J, D) else
      bif Nat.beq (S p).1 41 then go μ (pc + len) (mk fm ls) (.int (I iSCL 0) :: r) (n, S, R, I, J, D) else hl))
  | .getfield _ => f1 st (fun v r => fR v (fun p => bif Nat.beq a 43 then (bif Nat.beq (S p).1 43 then go μ (pc + len) (mk fm ls) ((bif Nat.beq c 0 then .int 0 else .ref (p + 10)) :: r) (n, S, R, I, J, D) else bif Nat.beq (S p).1 13 then gd (Nat.blt p n) μ (pc + len) (mk fm ls) ((bif Nat.beq c 0 then .int (I p 1) else orf (R p 0)) :: r) (n, S, R, I, J, D) else hl) else bif Nat.beq (S p).1 a then gd (Nat.blt p n) μ (pc + len) (mk fm ls) ((bif Nat.beq c 1 then orf (R p b) else bif Nat.beq c 2 then .long (J p b) else .int (I p b)) :: r) (n, S, R, I, J, D) else hl))
  | .putfield _ => f2 st (fun w v r => fR v (fun p => bif Nat.beq (S p).1 a then
      bif Nat.beq c 0 then fI w (fun x => gd (Nat.blt p n) μ (pc + len) (mk fm ls) r (n, S, R, ups I p b x, J, D)) else
      bif Nat.beq c 2 then fL w (fun x => gd (Nat.blt p n) μ (pc + len) (mk fm ls) r (n, S, R, I, upsL J p b x, D)) else
      fR w (fun q => gd (Nat.blt p n && Nat.blt q n) μ (pc + len) (mk fm ls) r (n, S, upR R p (va_up (R p) b (some q)), I, J, D)) else hl))
  | .getstatic _ => go μ (pc + len) (mk fm ls) ((bif Nat.beq c 0 then .ref b else .int k) :: st) (n, S, R, I, J, D)
  | .invokevirtual _ =>
      lk (st.drop (b - 1)).head? (fun v => fR v (fun p => bif ((Nat.beq (S p).1 c && (Nat.beq c 43 || Nat.blt p n)) || (Nat.beq c 43 && (Nat.beq (S p).1 13 && Nat.blt p n))) && ((Nat.ble (csm (st.drop b)) 8 && Nat.ble (csm (st.take b)) (mxl a)) && cG μ a I) then .inr (.inl (a, (st.take b).reverse, (μ, pc + len, mk fm ls, st.drop b, (n, S, R, cI μ a I, J, D)), ls)) else hl))
  | .invokestatic _ =>
      bif Nat.beq a 1000 then (match st with
        | .int z :: .int dp :: .ref q :: .int sp :: .ref p :: r => bif Nat.beq (S p).1 20 && Nat.beq (S q).1 20 then
            gd ((decide (¬ sp < 0) && (decide (¬ dp < 0) && decide (¬ z < 0))) && ((Nat.ble (sp.toNatClampNeg + z.toNatClampNeg) (S p).2 && Nat.ble (dp.toNatClampNeg + z.toNatClampNeg) (S q).2) && ((Nat.blt p n && Nat.blt q n) && Nat.ble (csm r) 8))) μ (pc + len) (mk fm ls) r (n, S, R, upR I q (va_cpy (I p) (I q) sp.toNatClampNeg dp.toNatClampNeg z.toNatClampNeg), J, D) else hl
        | _ => hl) else
      bif Nat.beq a 1005 then i2 st (fun x y r => gd (Nat.ble (csm r) 8) μ (pc + len) (mk fm ls) (.int (if y < x then y else x) :: r) (n, S, R, I, J, D)) else
      bif Nat.beq a 1006 then i2 st (fun x y r => gd (Nat.ble (csm r) 8) μ (pc + len) (mk fm ls) (.int (if x < y then y else x) :: r) (n, S, R, I, J, D)) else
      bif Nat.beq a 1007 then i1 st (fun x r => gd (Nat.ble (csm r) 8) μ (pc + len) (mk fm ls) (.int (if 0 ≤ x then x else 0 - x) :: r) (n, S, R, I, J, D)) else
      bif Nat.beq a 1008 then i2 st (fun x y r => gd (Nat.ble (csm r) 8 && decide (¬ y = 0)) μ (pc + len) (mk fm ls) (.int (fdv x y) :: r) (n, S, R, I, J, D)) else
      bif Nat.beq a 1004 then i2 st (fun x y r => gd (Nat.ble (csm r) 8 && (decide (0 ≤ x) && decide (x < y))) μ (pc + len) (mk fm ls) r (n, S, R, I, J, D)) else
      bif ((Nat.ble (csm (st.drop b)) 8 && Nat.ble (csm (st.take b)) (mxl a)) && cG μ a I) && Nat.ble b st.length then .inr (.inl (a, (st.take b).reverse, (μ, pc + len, mk fm ls, st.drop b, (n, S, R, cI μ a I, J, D)), ls)) else hl
  | .invokespecial _ =>
      bif Nat.beq a 1003 then f1 st (fun v r => fR v (fun _ => gd (Nat.ble (csm r) 8) μ (pc + len) (mk fm ls) r (n, S, R, I, J, D))) else
      lk (st.drop (b - 1)).head? (fun v => fR v (fun _ => bif ((Nat.ble (csm (st.drop b)) 8 && Nat.ble (csm (st.take b)) (mxl a)) && cG μ a I) then .inr (.inl (a, (st.take b).reverse, (μ, pc + len, mk fm ls, st.drop b, (n, S, R, cI μ a I, J, D)), ls)) else hl))
  | .new _ =>
      bif Nat.beq a 0 then gd (Nat.blt n 900000) μ (pc + len) (mk fm ls) (.ref n :: st) (n + 1, upR S n (b, 0), upR R n (fun _ => none), upR I n (fun _ => 0), upR J n (fun _ => 0), D) else
      .inr (.inr (Nat.ble (csm st) 8, .inr (.inl b), (n, S, R, I, J, D)))
  | .newarray _ => i1 st (fun x r => gd (Nat.blt n 900000 && (decide (0 ≤ x) && Nat.beq x.toNatClampNeg b)) μ (pc + len) (mk fm ls) (.ref n :: r) (n + 1, upR S n (c, x.toNatClampNeg), upR R n (fun _ => none), upR I n (fun _ => 0), upR J n (fun _ => 0), upR D n (fun _ => 0)))
  | .anewarray _ => i1 st (fun x r => gd (Nat.blt n 900000 && (decide (0 ≤ x) && Nat.beq x.toNatClampNeg b)) μ (pc + len) (mk fm ls) (.ref n :: r) (n + 1, upR S n (bif Nat.beq c 0 then 25 else c, x.toNatClampNeg), upR R n (fun _ => none), I, J, D))
  | .multianewarray _ _ => i2 st (fun x y r => gd ((Nat.blt n 800000 && (decide (0 ≤ x) && Nat.beq x.toNatClampNeg b)) && (decide (0 ≤ y) && decide (y = k))) μ (pc + len) (mk fm ls) (.ref n :: r)
      (n + 1 + x.toNatClampNeg, (fun q => bif Nat.beq q n then (c, x.toNatClampNeg) else bif Nat.blt n q && Nat.ble q (n + x.toNatClampNeg) then (a, y.toNatClampNeg) else S q),
        (fun q => bif Nat.beq q n then (fun j => if j < x.toNatClampNeg then some (n + 1 + j) else none) else bif Nat.blt n q && Nat.ble q (n + x.toNatClampNeg) then (fun _ => none) else R q),
        (fun q => bif Nat.blt n q && Nat.ble q (n + x.toNatClampNeg) then (fun _ => 0) else I q), (fun q => bif Nat.blt n q && Nat.ble q (n + x.toNatClampNeg) then (fun _ => 0) else J q), D))
  | .ireturn => i1 st (fun x r => rt (r.isEmpty && (bif Nat.beq c 0 then true else bif Nat.beq c 1 then decide (x = 0 ∨ x = 1) else bif Nat.beq c 2 then decide (0 ≤ x ∧ x ≤ 65535) else decide (-128 ≤ x ∧ x ≤ 127))) (some (.int x)) (n, S, R, I, J, D))
  | .lreturn => l1 st (fun x r => rt r.isEmpty (some (.long x)) (n, S, R, I, J, D))
  | .freturn => f1 st (fun v r => fF v (fun x => rt r.isEmpty (some (.float x)) (n, S, R, I, J, D)))
  | .dreturn => f1 st (fun v r => fD v (fun x => rt r.isEmpty (some (.double x)) (n, S, R, I, J, D)))
  | .areturn => f1 st (fun v r => fR v (fun x => rt r.isEmpty (some (.ref x)) (n, S, R, I, J, D)))
  | .return_ => rt st.isEmpty none (n, S, R, I, J, D)
  | _ => hl
/-- what the making of texts has beside: rows of bytes, a class above's methods -/
def spc (i : Instr) (a b c : Nat) : Bool := match i with
  | .pop => true
  | .aconst_null => true
  | .ifnonnull _ => true
  | .bastore => true
  | .baload => true
  | .putfield _ => true
  | .getstatic _ => Nat.beq b 1000014
  | .invokevirtual _ => Nat.beq c 14
  | .invokestatic _ => Nat.beq a 1000
  | .invokespecial _ => Nat.beq c 14
  | _ => false
def stB (μ pc : Nat) (ls st : List Value) (n : Nat) (S : Nat → Nat × Nat) (R : Nat → Nat → Option Nat) (I : Nat → Nat → Int32) (J : Nat → Nat → Int64) (D : Nat → Nat → UInt64) (i : Instr) (len : Nat) (fm tm : List Bool) (a b c : Nat) (k : Int32) : Ac :=
  match i with
  | .pop => f1 st (fun v r => bif cat1 v then go μ (pc + len) (mk fm ls) r (n, S, R, I, J, D) else hl)
  | .aconst_null => go μ (pc + len) (mk fm ls) (.null :: st) (n, S, R, I, J, D)
  | .ifnonnull _ => f1 st (fun v r => fR v (fun _ => go μ a (mk tm ls) r (n, S, R, I, J, D)))
  | .bastore => f3 st (fun u v w r => fI u (fun x => fI v (fun j => fR w (fun p => bif Nat.beq (S p).1 29 then gd (Nat.blt p n && inb j (S p).2) μ (pc + len) (mk fm ls) r (n, S, R, ups I p j.toNatClampNeg (vp_nar .byte x), J, D) else hl))))
  | .baload => f2 st (fun v w r => fI v (fun j => fR w (fun p => bif Nat.beq (S p).1 45 then gd (inb j (S p).2) μ (pc + len) (mk fm ls) (.int (sta p j.toNatClampNeg) :: r) (n, S, R, I, J, D) else hl)))
  | .getstatic _ => go μ (pc + len) (mk fm ls) (.ref b :: st) (n, S, R, I, J, D)
  | .putfield _ => f2 st (fun w v r => fR v (fun p => bif Nat.beq (S p).1 a then
      bif Nat.beq c 1 then fR w (fun q => gd (Nat.blt p n && Nat.blt q n) μ (pc + len) (mk fm ls) r (n, S, upR R p (va_up (R p) b (some q)), I, J, D)) else
      fI w (fun x => gd (Nat.blt p n && (Nat.beq c 0 || decide (x = 0))) μ (pc + len) (mk fm ls) r (n, S, R, ups I p b x, J, D)) else hl))
  | .invokevirtual _ =>
      lk (st.drop (b - 1)).head? (fun v => fR v (fun p => bif (Nat.beq (S p).1 14 && Nat.blt p n) && ((Nat.ble (csm (st.drop b)) 8 && Nat.ble (csm (st.take b)) (mxl a)) && cG μ a I) then .inr (.inl (a, (st.take b).reverse, (μ, pc + len, mk fm ls, st.drop b, (n, S, R, cI μ a I, J, D)), ls)) else hl))
  | .invokestatic _ => (match st with
        | .int z :: .int dp :: .ref q :: .int sp :: .ref p :: r => bif (Nat.beq (S p).1 29 || Nat.beq (S p).1 44) && Nat.beq (S q).1 29 then
            gd ((decide (¬ sp < 0) && (decide (¬ dp < 0) && decide (¬ z < 0))) && ((Nat.ble (sp.toNatClampNeg + z.toNatClampNeg) (S p).2 && Nat.ble (dp.toNatClampNeg + z.toNatClampNeg) (S q).2) && (((Nat.blt p n || Nat.beq (S p).1 44) && Nat.blt q n) && (Nat.ble (csm r) 8 && (List.range z.toNatClampNeg).all (fun i => decide (0 ≤ (bif Nat.beq (S p).1 44 then sta p else I p) (sp.toNatClampNeg + i)) && decide ((bif Nat.beq (S p).1 44 then sta p else I p) (sp.toNatClampNeg + i) ≤ 127)))))) μ (pc + len) (mk fm ls) r (n, S, R, upR I q (va_cpy (bif Nat.beq (S p).1 44 then sta p else I p) (I q) sp.toNatClampNeg dp.toNatClampNeg z.toNatClampNeg), J, D) else hl
        | _ => hl)
  | .invokespecial _ =>
      lk (st.drop (b - 1)).head? (fun v => fR v (fun p => bif (Nat.beq (S p).1 14 && Nat.blt p n) && ((Nat.ble (csm (st.drop b)) 8 && Nat.ble (csm (st.take b)) (mxl a)) && cG μ a I) then .inr (.inl (a, (st.take b).reverse, (μ, pc + len, mk fm ls, st.drop b, (n, S, R, cI μ a I, J, D)), ls)) else hl))
  | _ => hl
/-- which of the two a step is -/
def stX (μ pc : Nat) (ls st : List Value) (n : Nat) (S : Nat → Nat × Nat) (R : Nat → Nat → Option Nat) (I : Nat → Nat → Int32) (J : Nat → Nat → Int64) (D : Nat → Nat → UInt64) (i : Instr) (len : Nat) (fm tm : List Bool) (a b c : Nat) (k : Int32) : Ac :=
  bif spc i a b c && Nat.ble 359 μ then stB μ pc ls st n S R I J D i len fm tm a b c k else stA μ pc ls st n S R I J D i len fm tm a b c k
theorem stX_lo {μ pc : Nat} {ls st : List Value} {n : Nat} {S : Nat → Nat × Nat} {R : Nat → Nat → Option Nat} {I : Nat → Nat → Int32} {J : Nat → Nat → Int64} {D : Nat → Nat → UInt64} {i : Instr} {len : Nat} {fm tm : List Bool} {a b c : Nat} {k : Int32} (h : μ < 359) : stX μ pc ls st n S R I J D i len fm tm a b c k = stA μ pc ls st n S R I J D i len fm tm a b c k := by
  unfold stX
  rw [show Nat.ble 359 μ = false from by cases hb : Nat.ble 359 μ with | false => rfl | true => exact absurd (Nat.ble_eq.mp hb) (by omega), Bool.and_false]
  rfl
def st1 : Cf → Ac := fun (μ, pc, ls, st, n, S, R, I, J, D) => match cins μ pc with
  | some (i, len, fm, tm, a, b, c, k) => stX μ pc ls st n S R I J D i len fm tm a b c k
  | none => .inr (.inr (true, .inr (.inr (pc, ls, st)), (n, S, R, I, J, D)))
/-- where a thrown class is caught -/
def ctc (μ pc E : Nat) : Option Nat := (hnd μ).findSome? (fun h => bif Nat.ble h.1 pc && (Nat.blt pc h.2.1 && Nat.beq h.2.2.2 E) then some h.2.2.1 else none)
def acK (f g : Cf → Option Ou) (c0 : Cf) (a : Ac) : Option Ou := match a with
  | .inl (b, c, d) => bif b then g c else (match d with
    | some c => g c
    | none => none)
  | .inr (.inl (μ', as, c, ls0)) => match f (μ', 0, pad (mxl μ') (ent as), [], cIn μ' c.2.2.2.2) with
    | some (.inl v, M') => g (c.1, c.2.1, c.2.2.1, v.toList ++ c.2.2.2.1, cOut c.1 c.2.2.2.2 M')
    | some (.inr (.inl E), M') => (match ctc c0.1 c0.2.1 E with
      | some h => g (c.1, h, mk (hmk c0.1) ls0, [.ref iEXC], cOut c.1 c.2.2.2.2 M')
      | none => some (.inr (.inl E), cOut c.1 c.2.2.2.2 M'))
    | _ => none
  | .inr (.inr (b, o)) => bif b then some o else none
def run : Nat → Cf → Option Ou
  | 0, _ => none
  | n + 1, c => acK (run n) (run n) c (st1 c)
def itr : Nat → (Cf → Option Ou) → Cf → Option Ou
  | 0, f, c => f c
  | k + 1, f, c => acK f (itr k f) c (st1 c)
theorem acK_mono {f f' g g' : Cf → Option Ou} (hf : ∀ c o, f c = some o → f' c = some o) (hg : ∀ c o, g c = some o → g' c = some o) (c0 : Cf) (a : Ac) (o : Ou) (h : acK f g c0 a = some o) : acK f' g' c0 a = some o := by
  rcases a with ⟨b, c, d⟩ | ⟨μ', as, c, ls0⟩ | ⟨b, o'⟩
  · cases b with
    | true => exact hg _ _ h
    | false =>
      cases d with
      | none => exact h
      | some c => exact hg _ _ h
  · simp only [acK] at h ⊢
    generalize hx : f (μ', 0, pad (mxl μ') (ent as), [], cIn μ' c.2.2.2.2) = x at h
    cases x with
    | none => exact absurd h (by simp)
    | some o1 =>
      rw [hf _ _ hx]
      rcases o1 with ⟨v | E | s, M'⟩
      · exact hg _ _ h
      · dsimp only at h ⊢
        cases hc : ctc c0.1 c0.2.1 E with
        | none => rw [hc] at h; exact h
        | some q => rw [hc] at h; exact hg _ _ h
      · exact absurd h (by simp)
  · exact h
theorem run_mono : ∀ (n : Nat) (c : Cf) (o : Ou), run n c = some o → run (n + 1) c = some o
  | 0, _, _, h => absurd h (by simp [run])
  | n + 1, c, o, h => acK_mono (run_mono n) (run_mono n) c _ o h
theorem run_le {n m : Nat} (hnm : n ≤ m) {c : Cf} {o : Ou} (h : run n c = some o) : run m c = some o := by
  induction hnm with
  | refl => exact h
  | step _ ih => exact run_mono _ _ _ ih

/-- the answer of the run from here -/
noncomputable def ex (c : Cf) : Option Ou := @dite _ (∃ n o, run n c = some o) (Classical.propDecidable _) (fun h => some (Classical.choose (Classical.choose_spec h))) (fun _ => none)
