/-! A machine of numbers: the bytecode of all methods, run on a store of whole numbers. A value is a tag (0 int, 1 long, 2 reference; 9 nothing) and a number; a reference is 0 (null), k > 0 (the k-th cell made), or below 0 (a thing that was there before). -/
abbrev Vv : Type := Nat × Int
abbrev Sto : Type := Int → Int → Int
abbrev Lay : Type := Int → Int × Int
/-- the number of cells and of their slots, the cells' kinds and lengths, their contents -/
abbrev Stt : Type := (Int × Int) × Lay × Sto
abbrev Lcs : Type := List (Option Vv)
/-- an instruction: its number, three numbers, a table -/
abbrev IR : Type := Nat × Int × Int × Int × List (Int × Int)
/-- straight stretches: locals, stack, store, whether all went well -/
abbrev C4 : Type := Lcs × List Vv × Stt × Bool
