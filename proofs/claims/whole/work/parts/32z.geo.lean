/-! the field: moves of sets of cells, growing, groups -/
def allS (N : Nat) : Int64 := mk64 (fun i => decide (i < N))
def lefS (W N : Nat) : Int64 := mk64 (fun i => decide (i < N) && decide (i % W = 0))
def rigS (W N : Nat) : Int64 := mk64 (fun i => decide (i < N) && decide (i % W = W - 1))
def mvS (W N : Nat) (x : Int64) : Nat → Int64
  | 1 => (x &&& (rigS W N ^^^ (-1))) <<< ((1 : Int32).toInt64 &&& 63)
  | 2 => (x <<< ((nI W).toInt64 &&& 63)) &&& allS N
  | 3 => ush (x &&& (lefS W N ^^^ (-1))) 1
  | 4 => ush x (nI W)
  | _ => 0
def grnS (W N : Nat) (x : Int64) : Int64 := (((x ||| mvS W N x 1) ||| mvS W N x 2) ||| mvS W N x 3) ||| mvS W N x 4
def stG (W N : Nat) (X g : Int64) : Int64 := grnS W N g &&& X
def itG (W N : Nat) (X : Int64) : Nat → Int64 → Int64
  | 0, g => g
  | n + 1, g => itG W N X n (stG W N X g)
theorem itG_fix {W N : Nat} {X g : Int64} (h : stG W N X g = g) : ∀ n, itG W N X n g = g
  | 0 => rfl
  | n + 1 => by
    show itG W N X n (stG W N X g) = g
    rw [h]
    exact itG_fix h n
/-- the group of the cells g within X -/
def grpS (W N : Nat) (X g : Int64) : Int64 := itG W N X 49 (g &&& X)
def bit (c : Nat) : Int64 := (1 : Int64) <<< ((nI c).toInt64 &&& 63)
theorem bs_bitc {k : Nat} (hk : k < 64) {i : Nat} (hi : i < 64) : bs (bit k) i = decide (i = k) := bs_bit hk hi
/-- the group that begins lowest -/
def fgS (W N : Nat) (X : Int64) : Int64 := grpS W N X (X &&& -X)
