/-! orders of a round: pure -/
def fupd (f : Nat → Nat) (k v : Nat) : Nat → Nat := fun j => bif Nat.beq j k then v else f j
def kdn (f : Nat → Nat) : Nat → Option Nat
  | 0 => none
  | k + 1 => bif Nat.blt (f (k + 1)) (f k) then kdn f k else some k
def jdn (f : Nat → Nat) (v : Nat) : Nat → Nat
  | 0 => 0
  | j + 1 => bif Nat.blt (f (j + 1)) v then jdn f v j else j + 1
def rvs : Nat → (Nat → Nat) → Nat → Nat → Nat → Nat
  | 0, f, _, _ => f
  | n + 1, f, x, y => bif Nat.blt x y then rvs n (fupd (fupd f x (f y)) y (f x)) (x + 1) (y - 1) else f
def nxK (f : Nat → Nat) (m : Nat) : Option Nat → Option (Nat → Nat)
  | none => none
  | some k => some (rvs 5 (fupd (fupd f k (f (jdn f (f k) (m - 1)))) (jdn f (f k) (m - 1)) (f k)) (k + 1) (m - 1))
def nxF (f : Nat → Nat) (m : Nat) : Option (Nat → Nat) := nxK f m (kdn f (m - 1))
def mapN (g : Nat → Nat) : Nat → List Nat
  | 0 => []
  | n + 1 => mapN g n ++ [g n]
def gAt : List Nat → Nat → Nat
  | [], _ => 0
  | x :: _, 0 => x
  | _ :: r, k + 1 => gAt r k
def nxM (n : Nat) : Option (Nat → Nat) → Option (List Nat)
  | none => none
  | some g => some (mapN g n)
def nxL (L : List Nat) : Option (List Nat) := nxM L.length (nxF (gAt L) L.length)
def lexQ (sub : Nat → List (List Nat)) (t : Nat) : Nat → List (List Nat)
  | 0 => []
  | p + 1 => lexQ sub t p ++ (bif Nat.testBit t p then (sub (t - 2 ^ p)).map (List.cons p) else [])
def lexP : Nat → Nat → List (List Nat)
  | 0, _ => [[]]
  | m + 1, t => lexQ (lexP m) t 7
def srL (t : Nat) : Nat → List Nat
  | 0 => []
  | p + 1 => srL t p ++ (bif Nat.testBit t p then [p] else [])
def leq : List Nat → List Nat → Bool
  | [], [] => true
  | x :: r, y :: q => Nat.beq x y && leq r q
  | _, _ => false
def oeq : Option (List Nat) → List Nat → Bool
  | some L, M => leq L M
  | none, _ => false
def ono : Option (List Nat) → Bool
  | some _ => false
  | none => true
def chn : List Nat → List (List Nat) → Bool
  | L, [] => ono (nxL L)
  | L, M :: r => oeq (nxL L) M && chn M r
def figL : Nat → List Nat → Nat
  | f, [] => f
  | f, p :: r => figL (10 * f + p + 1) r
def ascB : Nat → List (List Nat) → Bool
  | _, [] => true
  | f, L :: r => Nat.blt f (figL 0 L) && (Nat.blt (figL 0 L) 1000000 && ascB (figL 0 L) r)
def inT (t m : Nat) (L : List Nat) : Bool := Nat.beq L.length m && L.all (fun p => Nat.testBit t p && Nat.blt p 7)
def okO (t m : Nat) : List (List Nat) → Bool
  | [] => false
  | L :: r => leq L (srL t 7) && (chn L r && (ascB 0 (L :: r) && (L :: r).all (inT t m)))
def okR (t : Nat) : Bool := bif Nat.blt 0 (cntB (Nat.testBit t) 7) && Nat.blt (cntB (Nat.testBit t) 7) 6 then okO t (cntB (Nat.testBit t) 7) (lexP (cntB (Nat.testBit t) 7) t) else true
set_option maxRecDepth 100000 in
theorem okR_all : ∀ t, t < 128 → okR t = true := by decide +kernel
