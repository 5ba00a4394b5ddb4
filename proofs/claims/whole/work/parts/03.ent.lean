/-! an instruction with its next pc and what it links -/
abbrev Ent : Type := Instr × Nat × Nat × Nat × Value
