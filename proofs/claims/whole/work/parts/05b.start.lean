/-! What was there before: the script, the constants, their row, the row of the switch, the text -/
def XL0 : Lay := fun a => if a = -1 then (200, 0) else if a = -50 then (204, 38) else if a = -51 then (205, 38) else if a = -60 then (206, 106) else if -39 ≤ a ∧ a ≤ -2 then (203, 0) else (-1, 0)
def XD0 (xs : Int → Int) : Sto := fun a i => if a = -1 then xs i else if a = -50 then (if 0 ≤ i ∧ i < 38 then -(2 + i) else 0) else if a = -51 then smap.getD i.toNat 0 else if a = -60 then wbytes.getD i.toNat 0 else if -39 ≤ a ∧ a ≤ -2 then (kV.getD i.toNat []).getD (-a - 2).toNat 0 else 0
