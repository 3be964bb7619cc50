/-! A PURE MACHINE for the instructions that this claim's methods use. The heap: types of cells (class number or array kind, length), references, ints, longs, how many exceptions were made. Cell 0 is the script. -/
abbrev zz_H : Type := List (Nat × Nat) × (Nat → Nat → Option Nat) × (Nat → Nat → Int32) × (Nat → Nat → Int64) × Nat
/-- an instruction, the next pc, two numbers, a constant -/
abbrev zz_I : Type := Instr × Nat × Nat × Nat × Int32
/-- a method: its code by pc, its locals, its handlers (from, to, handler, kind) -/
abbrev zz_M : Type := List (Nat × zz_I) × Nat × List (Nat × Nat × Nat × Nat)
/-- a frame: method, room of frames, pc, locals, stack -/
abbrev zz_F : Type := zz_M × Nat × Nat × List (Option Value) × List Value
/-- an end: a value or none, or an exception's kind; the heap -/
abbrev zz_R : Type := (Option Value ⊕ Nat) × zz_H
/-- the texts that the code names -/
abbrev zz_T : Type := List (List Int32)
