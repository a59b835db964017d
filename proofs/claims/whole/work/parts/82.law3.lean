/-! Laws: the class works a sum out -/
section S81
variable {xs : Int → Int} {n : Int × Int} {D G : Sto}
theorem c44 (d h : Nat) (hh : 1 ≤ h) (h64 : h ≤ 64) (hG : G 40 7 = h) : den (d + 1) 44 [(2, 40)] (Sg xs n G) = some ((1, G 45 ((h - 1 : Nat) : Int)), Sg xs n (up G 40 7 ((h - 1 : Nat) : Int))) := by
  rw [n44, h44_0, hG, if_pos (by omega), show w32 ((h : Int) - 1) = ((h - 1 : Nat) : Int) by rw [w32_idP (by omega) (by omega)]; omega, if_pos (inb_t (by omega) (by omega))]
theorem c43 (d h : Nat) (v : Int) (h64 : h < 64) (hG : G 40 7 = h) : den (d + 1) 43 [(2, 40), (1, v)] (Sg xs n G) = some ((9, 0), Sg xs n (up (up G 45 h v) 40 7 ((h + 1 : Nat) : Int))) := by
  rw [n43, h43_0, hG, if_neg (by omega), if_pos (inb_t (by omega) (by omega)), w1 (by omega), h43_29]
/-- what a sign makes of both, in the class -/
theorem c42s (d : Nat) (l1 l3 kc kv x y : Int) (n2 : sgP kc kv) (hnot : ¬ kv = 260) (hx : inL x) (hy : inL y) : Rn (d + 4) 42 114 [some (2, 40), some (0, l1), some (2, 53), some (0, l3), some (2, kc), none, none, some (1, y), none, none, none] [(1, x)] (Sg xs n G) = Rn (d + 4) 42 148 [some (2, 40), some (0, l1), some (2, 53), some (0, l3), none, some (1, ovI (opV kv x y)), none, none, none, none, none] [] (Sg xs n G) := by
  unfold sgP at n2
  rw [h42_114]
  obtain ⟨rfl, rfl⟩ | ⟨rfl, rfl⟩ | ⟨rfl, rfl⟩ | ⟨rfl, rfl⟩ | ⟨rfl, rfl⟩ | ⟨rfl, rfl⟩ | ⟨rfl, rfl⟩ | ⟨rfl, rfl⟩ | ⟨rfl, rfl⟩ | ⟨rfl, rfl⟩ | ⟨rfl, rfl⟩ | ⟨rfl, rfl⟩ | ⟨rfl, rfl⟩ := n2
  · rw [if_pos (show okK (-20) = true from rfl), if_pos (show kf 3 (-20) < 5 by decide), c49k (d + 1), cK1, pR1, h42_146]
    rfl
  · rw [if_pos (show okK (-21) = true from rfl), if_pos (show kf 3 (-21) < 5 by decide), c49j (d + 1), cK1, pR1, h42_146]
    rfl
  · exact absurd rfl hnot
  · rw [if_pos (show okK (-23) = true from rfl), if_pos (show kf 3 (-23) < 5 by decide), c49a (d + 1), cK1, pR1, h42_146]
    rfl
  · rw [if_pos (show okK (-24) = true from rfl), if_pos (show kf 3 (-24) < 5 by decide), c49b (d + 1), cK1, pR1, h42_146]
    rfl
  · rw [if_pos (show okK (-25) = true from rfl), if_pos (show kf 3 (-25) < 5 by decide), c49c (d + 1), cK1, pR1, h42_146]
    rfl
  · rw [if_pos (show okK (-26) = true from rfl), if_pos (show kf 3 (-26) < 5 by decide), c49e (d + 1), cK1, pR1, h42_146]
    rfl
  · rw [if_pos (show okK (-27) = true from rfl), if_pos (show kf 3 (-27) < 5 by decide), c49f (d + 1), cK1, pR1, h42_146]
    rfl
  · rw [if_pos (show okK (-28) = true from rfl), if_pos (show kf 3 (-28) < 5 by decide), c49g (d + 1), cK1, pR1, h42_146]
    rfl
  · rw [if_pos (show okK (-29) = true from rfl), if_neg (show ¬ kf 3 (-29) < 5 by decide), c46a (d + 1) x y hx hy, cK1, pR1, h42_134, h42_146]
    rfl
  · rw [if_pos (show okK (-30) = true from rfl), if_neg (show ¬ kf 3 (-30) < 5 by decide), c46b (d + 1) x y hx hy, cK1, pR1, h42_134, h42_146]
    rfl
  · rw [if_pos (show okK (-31) = true from rfl), if_neg (show ¬ kf 3 (-31) < 5 by decide), c46c (d + 1) x y hx hy, cK1, pR1, h42_134, h42_146]
    rfl
  · rw [if_pos (show okK (-32) = true from rfl), if_neg (show ¬ kf 3 (-32) < 5 by decide), c46e (d + 1) x y hx hy, cK1, pR1, h42_134, h42_146]
    rfl
end S81
