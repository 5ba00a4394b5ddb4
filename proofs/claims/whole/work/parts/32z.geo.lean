/-! the field: moves of sets of cells, growing, groups -/
def allS (N : Nat) : Int64 := mk64 (fun i => decide (i < N))
def lefS (W N : Nat) : Int64 := mk64 (fun i => decide (i < N) && decide (i % W = 0))
def rigS (W N : Nat) : Int64 := mk64 (fun i => decide (i < N) && decide (i % W = W - 1))
def mvS (W N : Nat) (x : Int64) : Nat → Int64
  | 1 => (x &&& (rigS W N ^^^ (-1))) <<< ((1 : Int32).toInt64 &&& 63)
  | 2 => (x <<< ((nI W).toInt64 &&& 63)) &&& allS N
  | 3 => ush (x &&& (lefS W N ^^^ (-1))) 1
  | 4 => ush x (nI W)
  | _ => 0
def grnS (W N : Nat) (x : Int64) : Int64 := (((x ||| mvS W N x 1) ||| mvS W N x 2) ||| mvS W N x 3) ||| mvS W N x 4
def stG (W N : Nat) (X g : Int64) : Int64 := grnS W N g &&& X
def itG (W N : Nat) (X : Int64) : Nat → Int64 → Int64
  | 0, g => g
  | n + 1, g => itG W N X n (stG W N X g)
theorem itG_fix {W N : Nat} {X g : Int64} (h : stG W N X g = g) : ∀ n, itG W N X n g = g
  | 0 => rfl
  | n + 1 => by
    show itG W N X n (stG W N X g) = g
    rw [h]
    exact itG_fix h n
/-- the group of the cells g within X -/
def grpS (W N : Nat) (X g : Int64) : Int64 := itG W N X 49 (g &&& X)
def bit (c : Nat) : Int64 := (1 : Int64) <<< ((nI c).toInt64 &&& 63)
theorem bs_bitc {k : Nat} (hk : k < 64) {i : Nat} (hi : i < 64) : bs (bit k) i = decide (i = k) := bs_bit hk hi
/-- the group that begins lowest -/
def fgS (W N : Nat) (X : Int64) : Int64 := grpS W N X (X &&& -X)
/-! over the groups, from the lowest on -/
def gfd {α : Type} (W N : Nat) (f : α → Int64 → α) : Nat → Int64 → α → α
  | 0, _, a => a
  | n + 1, X, a => bif decide (X = 0) then a else gfd W N f n (X &&& (fgS W N X ^^^ (-1))) (f a (fgS W N X))
theorem gfd_0 {α : Type} (W N : Nat) (f : α → Int64 → α) (n : Nat) (a : α) : gfd W N f n 0 a = a := by
  cases n <;> rfl
theorem gfd_s {α : Type} {W N : Nat} {f : α → Int64 → α} {n : Nat} {X : Int64} {a : α} (h : ¬ X = 0) : gfd W N f (n + 1) X a = gfd W N f n (X &&& (fgS W N X ^^^ (-1))) (f a (fgS W N X)) := by
  show (bif decide (X = 0) then a else _) = _
  rw [decide_eq_false h]
  rfl
def anyF (f : Nat → Bool) : Nat → Bool
  | 0 => false
  | n + 1 => anyF f n || f n
theorem anyF_iff {f : Nat → Bool} : ∀ {n : Nat}, anyF f n = true ↔ ∃ i, i < n ∧ f i = true
  | 0 => ⟨fun h => (by cases h), fun ⟨i, h, _⟩ => absurd h (Nat.not_lt_zero i)⟩
  | n + 1 => by
    show (anyF f n || f n) = true ↔ _
    rw [Bool.or_eq_true, anyF_iff]
    constructor
    · intro h
      rcases h with ⟨i, h1, h2⟩ | h
      · exact ⟨i, by omega, h2⟩
      · exact ⟨n, by omega, h⟩
    · intro ⟨i, h1, h2⟩
      by_cases e : i = n
      · subst e
        exact Or.inr h2
      · exact Or.inl ⟨i, by omega, h2⟩
theorem anyF_false {f : Nat → Bool} {n : Nat} (h : ∀ i, i < n → f i = false) : anyF f n = false := by
  cases e : anyF f n with
  | false => rfl
  | true =>
    obtain ⟨i, h1, h2⟩ := anyF_iff.mp e
    rw [h i h1] at h2
    cases h2
def grpN (W N : Nat) (X : Int64) : Nat := gfd W N (fun a _ => a + 1) 49 X 0
def cntS (W N : Nat) (X : Int64) : Nat := gfd W N (fun a g => a + cntd (pop g)) 49 X 0
def bigF (a : Int32 × Nat) (g : Int64) : Int32 × Nat := if a.2 < pop g then (nI (lo g), pop g) else a
def bigS (W N : Nat) (X : Int64) : Int32 := (gfd W N bigF 49 X (-1, 0)).1
def isSh (sh : Nat → Int64) (g : Int64) : Bool := anyF (fun j => decide (sh j = g)) 245
def frgS (W N : Nat) (sh : Nat → Int64) (X : Int64) : Nat := gfd W N (fun a g => a + (bif isSh sh g then 0 else 1)) 49 X 0
