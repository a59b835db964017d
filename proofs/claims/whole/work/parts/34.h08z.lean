/-! One row more -/
theorem r39x {d m pc pc' : Nat} {tb : List (Nat × List Nat × IR)} {ks : List Nat} {lo lo' : Lcs} {st : List Vv} {s : Stt} {b c : Int} {l : List (Int × Int)} (ht : tabs.getD m [] = tb) (hl : look tb pc = some (ks, (39, 1, b, c, l))) (hk : kil ks lo = lo') (hp : pc + 1 = pc') {x y : Int} : Rn d m pc lo ((1, y) :: (1, x) :: st) s = Rn d m pc' lo' ((1, l_xor x y) :: st) s := by
  rw [Rn_s ht hl, hk]; subst hp; rfl
