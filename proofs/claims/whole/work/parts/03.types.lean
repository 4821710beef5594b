/-! ===== the small machine's types ===== -/
abbrev zM : Type := Nat → Nat → Int32
/-- counts (places, cells, slots), kinds of the places, references, longs -/
abbrev zG : Type := (Nat × Nat × Nat) × (Nat → Nat × Nat) × (Nat → Nat → Nat) × (Nat → Nat → Int64)
/-- opcode, two numbers, a pool's entry, the pc -/
abbrev zO : Type := Nat × Nat × Nat × Nat × Nat
