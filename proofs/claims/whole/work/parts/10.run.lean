/-! the run -/
def catS (S : Stk) : Nat := (S.map fun v => v.category).sum
def pfC (a b : Nat) (w : Value) (p : Nat) (S : Stk) (h : AHp) : Option ACell → Option (Stk × AHp)
  | some (.inr (ci, fs)) => bif Nat.beq ci a && (Nat.blt b fs.length && okV (fty a b) w) then some (S, h.set p (.inr (ci, fs.set b w))) else none
  | _ => none
def iasC (x i : Int32) (p : Nat) (S : Stk) (h : AHp) : Option ACell → Option (Stk × AHp)
  | some (.inl (0, n, .inl f)) => bif inB i n then some (S, h.set p (.inl (0, n, .inl (upd f i.toNatClampNeg x)))) else none
  | _ => none
def lasC (x : Int64) (i : Int32) (p : Nat) (S : Stk) (h : AHp) : Option ACell → Option (Stk × AHp)
  | some (.inl (1, n, .inr (.inl f))) => bif inB i n then some (S, h.set p (.inl (1, n, .inr (.inl (vp_updL f i.toNatClampNeg x))))) else none
  | _ => none
def basC (x i : Int32) (p : Nat) (S : Stk) (h : AHp) : Option ACell → Option (Stk × AHp)
  | some (.inl (2, n, .inl f)) => bif inB i n then some (S, h.set p (.inl (2, n, .inl (upd f i.toNatClampNeg (vp_nar .boolean x))))) else none
  | _ => none
def cpC (sp dp n : Int32) (q : Nat) (S : Stk) (h : AHp) : Option ACell → Option ACell → Option (Stk × AHp)
  | some (.inl (0, n0, .inl f)), some (.inl (0, n1, .inl g)) =>
    bif (decide (0 ≤ sp.toInt) && (decide (0 ≤ dp.toInt) && decide (0 ≤ n.toInt))) && (Nat.ble (sp.toNatClampNeg + n.toNatClampNeg) n0 && (Nat.ble (dp.toNatClampNeg + n.toNatClampNeg) n1 && Nat.ble (catS S) 8))
    then some (S, h.set q (.inl (0, n1, .inl (va_cpy f g sp.toNatClampNeg dp.toNatClampNeg n.toNatClampNeg)))) else none
  | _, _ => none
def cpyS (h : AHp) : Stk → Option (Stk × AHp)
  | .int n :: .int dp :: .ref q :: .int sp :: .ref p :: S => cpC sp dp n q S h h[p]? h[q]?
  | _ => none
def mthC (a : Nat) (h : AHp) (S : Stk) : Option (Stk × AHp) := match a with
  | 990 => (match S with
    | .int y :: .int x :: S => bif Nat.ble (catS S) 8 then some (.int (if x < y then y else x) :: S, h) else none
    | _ => none)
  | 991 => (match S with
    | .int y :: .int x :: S => bif Nat.ble (catS S) 8 then some (.int (if y < x then y else x) :: S, h) else none
    | _ => none)
  | 992 => (match S with
    | .int x :: S => bif Nat.ble (catS S) 8 then some (.int (if 0 ≤ x then x else 0 - x) :: S, h) else none
    | _ => none)
  | 993 => (match S with
    | .long y :: .long x :: S => bif Nat.ble (catS S) 8 then some (.long (if y < x then y else x) :: S, h) else none
    | _ => none)
  | _ => none
def hwr (ins : Instr) (a b : Nat) (S : Stk) (h : AHp) : Option (Stk × AHp) := match ins with
  | .putfield _ => (match S with
    | w :: .ref p :: S => pfC a b w p S h h[p]?
    | _ => none)
  | .iastore => (match S with
    | .int x :: .int i :: .ref p :: S => iasC x i p S h h[p]?
    | _ => none)
  | .lastore => (match S with
    | .long x :: .int i :: .ref p :: S => lasC x i p S h h[p]?
    | _ => none)
  | .bastore => (match S with
    | .int x :: .int i :: .ref p :: S => basC x i p S h h[p]?
    | _ => none)
  | .invokestatic _ => bif Nat.beq a 998 then cpyS h S else mthC a h S
  | .invokespecial _ => (match S with
    | .ref _ :: S => bif Nat.ble (catS S) 8 then some (S, h) else none
    | _ => none)
  | _ => none
def zeroA (t n : Nat) : ACell := match t with
  | 0 => .inl (0, n, .inl fun _ => 0)
  | 1 => .inl (1, n, .inr (.inl fun _ => 0))
  | _ => .inl (2, n, .inl fun _ => 0)
def alc (ins : Instr) (a : Nat) (S : Stk) (h : AHp) : Option (Stk × AHp × Nat) := match ins with
  | .new _ => bif Nat.blt h.length 999 then some (.ref h.length :: S, h ++ [.inr (a, dflt a)], nfs a) else none
  | .newarray _ => (match S with
    | .int n :: S => bif decide (0 ≤ n.toInt) && (decide (n.toInt < 100000) && Nat.blt h.length 999) then some (.ref h.length :: S, h ++ [zeroA a n.toNatClampNeg], n.toNatClampNeg) else none
    | _ => none)
  | _ => none
def rcC (z : Nat) : Option ACell → Bool
  | some (.inr (ci, _)) => Nat.beq ci z
  | _ => false
def rcv (ins : Instr) (z : Nat) (as : Stk) (h : AHp) : Bool := match ins with
  | .invokevirtual _ => (match as with
    | .ref p :: _ => rcC z h[p]?
    | _ => false)
  | .invokespecial _ => (match as with
    | .ref _ :: _ => true
    | _ => false)
  | .invokestatic _ => true
  | _ => false
def calZ (ins : Instr) (b z : Nat) (S : Stk) (h : AHp) : Option (Stk × Stk × Nat) :=
  bif Nat.ble b S.length && (Nat.ble (catS (S.drop b)) 8 && (Nat.ble (catS (S.take b)) (z / 100) && rcv ins (z % 100) (S.take b).reverse h)) then some ((S.take b).reverse, S.drop b, z / 100) else none
def cal (ins : Instr) (b : Nat) (v : Value) (S : Stk) (h : AHp) : Option (Stk × Stk × Nat) := match v with
  | .retAddr z => calZ ins b z S h
  | _ => none
def rtS (ins : Instr) (b : Nat) (S : Stk) : Option (Option Value) := match ins with
  | .ireturn => (match S with
    | [.int x] => bif Nat.beq b 0 || (decide (x = 0) || decide (x = 1)) then some (some (.int x)) else none
    | _ => none)
  | .lreturn => (match S with
    | [.long x] => some (some (.long x))
    | _ => none)
  | .return_ => (match S with
    | [] => some none
    | _ => none)
  | _ => none
def kd (ins : Instr) (a : Nat) : Nat := match ins with
  | .ifCond _ _ => 1
  | .if_icmp _ _ => 1
  | .tableswitch _ _ _ _ => 2
  | .lookupswitch _ _ => 2
  | .getfield _ => 3
  | .getstatic _ => 3
  | .iaload => 3
  | .laload => 3
  | .baload => 3
  | .arraylength => 3
  | .putfield _ => 4
  | .iastore => 4
  | .lastore => 4
  | .bastore => 4
  | .invokestatic _ => bif Nat.ble 990 a then 4 else 6
  | .invokespecial _ => bif Nat.beq a 999 then 4 else 6
  | .invokevirtual _ => 6
  | .new _ => 5
  | .newarray _ => 5
  | .ireturn => 7
  | .lreturn => 7
  | .return_ => 7
  | _ => 0
abbrev Res : Type := Option Value × AHp × Nat × Nat
def run (sc : Scr) : Nat → Nat → Nat → Nat → Lcs → Stk → AHp → Option Res
  | 0, _, _, _, _, _, _ => none
  | f + 1, d, M, pc, L, S, h =>
    match cAt M pc with
    | none => none
    | some (ins, nx, a, b, v) =>
      match kd ins a with
      | 0 => (match st1 ins nx a v L S with
        | none => none
        | some (pc', L', S') => run sc f d M pc' L' S' h)
      | 1 => (match brS ins S with
        | none => none
        | some (c, S') => run sc f d M (bif c then a else nx) L S' h)
      | 2 => (match swS ins pc S with
        | none => none
        | some (t, S') => run sc f d M t L S' h)
      | 3 => (match hrd sc ins a b v S h with
        | none => none
        | some S' => run sc f d M nx L S' h)
      | 4 => (match hwr ins a b S h with
        | none => none
        | some (S', h') => run sc f d M nx L S' h')
      | 5 => (match alc ins a S h with
        | none => none
        | some (S', h', k) => (match run sc f d M nx L S' h' with
          | none => none
          | some (r, h2, c2, n2) => some (r, h2, c2 + 1, n2 + k)))
      | 6 => (match d with
        | 0 => none
        | d' + 1 => (match cal ins b v S h with
          | none => none
          | some (as, rest, nl) => (match run sc f d' a 0 (iniL nl as) [] h with
            | none => none
            | some (r1, h1, c1, n1) => (match run sc f (d' + 1) M nx L (r1.toList ++ rest) h1 with
              | none => none
              | some (r, h2, c2, n2) => some (r, h2, c1 + c2, n1 + n2)))))
      | _ => (match rtS ins b S with
        | none => none
        | some r => some (r, h, 0, 0))
