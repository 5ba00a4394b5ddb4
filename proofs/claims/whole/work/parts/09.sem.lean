/-! The interpreter: the bytecode's steps over abstract cells. A reference is a position in the list of cells; positions from 1000 on are two arrays that nobody writes (the script, LIMBS). -/
abbrev Lcs : Type := List (Option Value)
abbrev Stk : Type := List Value
abbrev ACell : Type := (Nat × vp_A) ⊕ (Nat × List Value)
abbrev AHp : Type := List ACell
abbrev Scr : Type := Nat × (Nat → Int32)
def isC1 : Value → Bool
  | .long _ => false
  | .double _ => false
  | _ => true
def gL0 : Option (Option Value) → Option Value
  | some (some v) => some v
  | _ => none
def gL (L : Lcs) (i : Nat) : Option Value := gL0 L[i]?
def kil1 (L : Lcs) (j : Nat) : Option (Option Value) → Lcs
  | some (some v) => bif isC1 v then L else L.set j none
  | _ => L
/-- a long whose second half is stored over is gone -/
def kil (L : Lcs) : Nat → Lcs
  | 0 => L
  | j + 1 => kil1 L j L[j]?
def kio : Option Value → Option Value
  | some v => bif isC1 v then some v else none
  | none => none
def tl0 : Lcs → Lcs
  | [] => []
  | _ :: r => none :: r
/-- stores, each in one walk -/
def sL1 : Lcs → Nat → Value → Lcs
  | [], _, _ => []
  | _ :: r, 0, v => some v :: r
  | x :: r, 1, v => kio x :: sL1 r 0 v
  | x :: r, n + 2, v => x :: sL1 r (n + 1) v
def sL2 : Lcs → Nat → Value → Lcs
  | [], _, _ => []
  | _ :: r, 0, v => some v :: tl0 r
  | x :: r, 1, v => kio x :: sL2 r 0 v
  | x :: r, n + 2, v => x :: sL2 r (n + 1) v
def pad : Nat → Lcs → Lcs
  | 0, _ => []
  | n + 1, [] => none :: pad n []
  | n + 1, x :: l => x :: pad n l
def argL : Stk → Lcs
  | [] => []
  | v :: r => bif isC1 v then some v :: argL r else some v :: none :: argL r
def iniL (n : Nat) (as : Stk) : Lcs := pad n (argL as)
def ii2 (f : Int32 → Int32 → Int32) : Stk → Option Stk
  | .int y :: .int x :: S => some (.int (f x y) :: S)
  | _ => none
def iiD (f : Int32 → Int32 → Int32) : Stk → Option Stk
  | .int y :: .int x :: S => bif y == 0 then none else some (.int (f x y) :: S)
  | _ => none
def ll2 (f : Int64 → Int64 → Int64) : Stk → Option Stk
  | .long y :: .long x :: S => some (.long (f x y) :: S)
  | _ => none
def llD (f : Int64 → Int64 → Int64) : Stk → Option Stk
  | .long y :: .long x :: S => bif y == 0 then none else some (.long (f x y) :: S)
  | _ => none
def li2 (f : Int64 → Int32 → Int64) : Stk → Option Stk
  | .int y :: .long x :: S => some (.long (f x y) :: S)
  | _ => none
def i1 (f : Int32 → Value) : Stk → Option Stk
  | .int x :: S => some (f x :: S)
  | _ => none
def l1 (f : Int64 → Value) : Stk → Option Stk
  | .long x :: S => some (f x :: S)
  | _ => none
def lcm2 : Stk → Option Stk
  | .long y :: .long x :: S => some (.int (lg_cmp x y) :: S)
  | _ => none
def dupS : Stk → Option Stk
  | v :: S => bif isC1 v then some (v :: v :: S) else none
  | _ => none
def dup2S : Stk → Option Stk
  | v :: w :: S => bif isC1 v && isC1 w then some (v :: w :: v :: w :: S) else none
  | _ => none
def alu (ins : Instr) (S : Stk) : Option Stk := match ins with
  | .iadd => ii2 (fun x y => x + y) S
  | .isub => ii2 (fun x y => x - y) S
  | .imul => ii2 (fun x y => x * y) S
  | .iand => ii2 (fun x y => x &&& y) S
  | .ior => ii2 (fun x y => x ||| y) S
  | .ixor => ii2 (fun x y => x ^^^ y) S
  | .ishl => ii2 (fun x y => x <<< (y &&& 31)) S
  | .ishr => ii2 (fun x y => x >>> (y &&& 31)) S
  | .iushr => ii2 (fun x y => (x.toUInt32 >>> (y.toUInt32 &&& Int32.toUInt32 31)).toInt32) S
  | .idiv => iiD (fun x y => x / y) S
  | .irem => iiD (fun x y => x - x / y * y) S
  | .ineg => i1 (fun x => .int (-x)) S
  | .ladd => ll2 (fun x y => x + y) S
  | .lsub => ll2 (fun x y => x - y) S
  | .lmul => ll2 (fun x y => x * y) S
  | .land => ll2 (fun x y => x &&& y) S
  | .lor => ll2 (fun x y => x ||| y) S
  | .lxor => ll2 (fun x y => x ^^^ y) S
  | .ldiv => llD (fun x y => x / y) S
  | .lrem => llD (fun x y => x - x / y * y) S
  | .lneg => l1 (fun x => .long (-x)) S
  | .lshl => li2 (fun x y => x <<< (y.toInt64 &&& 63)) S
  | .lshr => li2 (fun x y => x >>> (y.toInt64 &&& 63)) S
  | .lushr => li2 (fun x y => (x.toUInt64 >>> (y.toInt64.toUInt64 &&& Int64.toUInt64 63)).toInt64) S
  | .i2l => i1 (fun x => .long x.toInt64) S
  | .l2i => l1 (fun x => .int x.toInt32) S
  | .lcmp => lcm2 S
  | .dup => dupS S
  | .dup2 => dup2S S
  | _ => none
def ldI : Option Value → Option Value
  | some (.int x) => some (.int x)
  | _ => none
def ldL : Option Value → Option Value
  | some (.long x) => some (.long x)
  | _ => none
def ldA : Option Value → Option Value
  | some (.ref x) => some (.ref x)
  | _ => none
def push (nx : Nat) (L : Lcs) (S : Stk) : Option Value → Option (Nat × Lcs × Stk)
  | some v => some (nx, L, v :: S)
  | none => none
def stI (nx a : Nat) (L : Lcs) : Stk → Option (Nat × Lcs × Stk)
  | .int x :: S => some (nx, sL1 L a (.int x), S)
  | _ => none
def stA (nx a : Nat) (L : Lcs) : Stk → Option (Nat × Lcs × Stk)
  | .ref x :: S => some (nx, sL1 L a (.ref x), S)
  | _ => none
def stL (nx a : Nat) (L : Lcs) : Stk → Option (Nat × Lcs × Stk)
  | .long x :: S => some (nx, sL2 L a (.long x), S)
  | _ => none
def incS (nx a : Nat) (L : Lcs) (S : Stk) : Option Value → Value → Option (Nat × Lcs × Stk)
  | some (.int x), .int n => some (nx, sL1 L a (.int (x + n)), S)
  | _, _ => none
def aluS (nx : Nat) (L : Lcs) : Option Stk → Option (Nat × Lcs × Stk)
  | some S => some (nx, L, S)
  | none => none
def st1 (ins : Instr) (nx a : Nat) (v : Value) (L : Lcs) (S : Stk) : Option (Nat × Lcs × Stk) := match ins with
  | .iconst _ => some (nx, L, v :: S)
  | .bipush _ => some (nx, L, v :: S)
  | .sipush _ => some (nx, L, v :: S)
  | .lconst _ => some (nx, L, v :: S)
  | .ldc _ => some (nx, L, v :: S)
  | .ldc_w _ => some (nx, L, v :: S)
  | .ldc2_w _ => some (nx, L, v :: S)
  | .iload _ => push nx L S (ldI (gL L a))
  | .iload_n _ => push nx L S (ldI (gL L a))
  | .lload _ => push nx L S (ldL (gL L a))
  | .lload_n _ => push nx L S (ldL (gL L a))
  | .aload _ => push nx L S (ldA (gL L a))
  | .aload_n _ => push nx L S (ldA (gL L a))
  | .istore _ => stI nx a L S
  | .istore_n _ => stI nx a L S
  | .lstore _ => stL nx a L S
  | .lstore_n _ => stL nx a L S
  | .astore _ => stA nx a L S
  | .astore_n _ => stA nx a L S
  | .iinc _ _ => incS nx a L S (gL L a) v
  | .goto _ => some (a, L, S)
  | i => aluS nx L (alu i S)
def ifB (c : Jvm.ClassFile.Cond) (x : Int32) : Bool := match c with
  | .eq => decide (x = 0)
  | .ne => decide (¬ x = 0)
  | .lt => decide (x < 0)
  | .ge => decide (0 ≤ x)
  | .gt => decide (0 < x)
  | .le => decide (x ≤ 0)
def cmB (c : Jvm.ClassFile.Cond) (x y : Int32) : Bool := match c with
  | .eq => decide (x = y)
  | .ne => decide (¬ x = y)
  | .lt => decide (x < y)
  | .ge => decide (y ≤ x)
  | .gt => decide (y < x)
  | .le => decide (x ≤ y)
def br0 (c : Jvm.ClassFile.Cond) : Stk → Option (Bool × Stk)
  | .int x :: S => some (ifB c x, S)
  | _ => none
def br2 (c : Jvm.ClassFile.Cond) : Stk → Option (Bool × Stk)
  | .int y :: .int x :: S => some (cmB c x y, S)
  | _ => none
def brS (ins : Instr) (S : Stk) : Option (Bool × Stk) := match ins with
  | .ifCond c _ => br0 c S
  | .if_icmp c _ => br2 c S
  | _ => none
/-- where a switch goes -/
def swT (ins : Instr) (pc : Nat) (x : Int32) : Option Nat := match ins with
  | .tableswitch d lo hi offs => bif decide (x.toInt < lo) || decide (hi < x.toInt) then some ((pc : Int) + d).toNat else
      match offs[(x.toInt - lo).toNat]? with
      | some off => some ((pc : Int) + off).toNat
      | none => none
  | .lookupswitch d ps => some ((pc : Int) + Op.lookupswitch.offset ps.toList d x.toInt).toNat
  | _ => none
def swS (ins : Instr) (pc : Nat) : Stk → Option (Nat × Stk)
  | .int x :: S => match swT ins pc x with
    | some t => some (t, S)
    | none => none
  | _ => none
def limbs : Nat → Int32 := fun i => match i with
  | 0 => 10
  | 1 => 26
  | 2 => 4
  | 3 => 0
  | _ => 2
def ro (sc : Scr) (p : Nat) : Option ACell := bif Nat.beq p 1000 then some (.inl (0, sc.1, .inl sc.2)) else bif Nat.beq p 1001 then some (.inl (0, 5, .inl limbs)) else none
def rd (sc : Scr) (h : AHp) (p : Nat) : Option ACell := match h[p]? with
  | some c => some c
  | none => ro sc p
def inB (i : Int32) (n : Nat) : Bool := decide (0 ≤ i.toInt) && decide (i.toInt < n)
def gfC (a b : Nat) (S : Stk) : Option ACell → Option Stk
  | some (.inr (ci, fs)) => bif Nat.beq ci a then (match fs[b]? with
    | some w => some (w :: S)
    | none => none) else none
  | _ => none
def ialC (i : Int32) (S : Stk) : Option ACell → Option Stk
  | some (.inl (0, n, .inl f)) => bif inB i n then some (.int (f i.toNatClampNeg) :: S) else none
  | _ => none
def lalC (i : Int32) (S : Stk) : Option ACell → Option Stk
  | some (.inl (1, n, .inr (.inl f))) => bif inB i n then some (.long (f i.toNatClampNeg) :: S) else none
  | _ => none
def balC (i : Int32) (S : Stk) : Option ACell → Option Stk
  | some (.inl (2, n, .inl f)) => bif inB i n then some (.int (f i.toNatClampNeg) :: S) else none
  | _ => none
def lenC (S : Stk) : Option ACell → Option Stk
  | some (.inl (0, n, _)) => some (.int (Int32.ofNat n) :: S)
  | some (.inl (1, n, _)) => some (.int (Int32.ofNat n) :: S)
  | _ => none
def hrd (sc : Scr) (ins : Instr) (a b : Nat) (v : Value) (S : Stk) (h : AHp) : Option Stk := match ins with
  | .getstatic _ => some (v :: S)
  | .getfield _ => (match S with
    | .ref p :: S => gfC a b S h[p]?
    | _ => none)
  | .iaload => (match S with
    | .int i :: .ref p :: S => ialC i S (rd sc h p)
    | _ => none)
  | .laload => (match S with
    | .int i :: .ref p :: S => lalC i S h[p]?
    | _ => none)
  | .baload => (match S with
    | .int i :: .ref p :: S => balC i S h[p]?
    | _ => none)
  | .arraylength => (match S with
    | .ref p :: S => lenC S (rd sc h p)
    | _ => none)
  | _ => none
def okV : FieldType → Value → Bool
  | .int, .int _ => true
  | .long, .long _ => true
  | .object _, .ref _ => true
  | .array _, .ref _ => true
  | .boolean, .int x => decide (x = 0) || decide (x = 1)
  | _, _ => false
