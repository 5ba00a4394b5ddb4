/-! the methods by their numbers -/
def gC : List (Nat × Ent) → Nat → Option Ent
  | [], _ => none
  | (j, e) :: r, i => bif Nat.beq j i then some e else gC r i
def mt (M : Nat) : Option Meta := (mts.getD (M / 16) [])[M % 16]?
def cMt (pc : Nat) : Option Meta → Option Ent
  | some (_, _, _, _, _, _, _, k) => gC k pc
  | none => none
def cAt (M pc : Nat) : Option Ent := cMt pc (mt M)
