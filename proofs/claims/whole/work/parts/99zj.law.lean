/-! The law: one call of a script, on both sides -/
def okCt (n n' : Int × Int) : Prop := n'.1 = n.1 ∧ n.2 ≤ n'.2 ∧ n'.2 ≤ n.2 + 8
theorem okCr {n : Int × Int} : okCt n n := ⟨rfl, Int.le_refl _, by omega⟩
section S99zj
variable {xs : Int → Int} {n : Int × Int} {D : Sto} {i : Int}

theorem cs0 (R : Rel D) (d : Nat) (w1 : w32 (i + 1) = i + 1) (i1 : inb (i + 1) (xs (-1)) = true) (w2 : w32 (i + 2) = i + 2) (i2 : inb (i + 2) (xs (-1)) = true) (w3 : w32 (i + 3) = i + 3) (i3 : inb (i + 3) (xs (-1)) = true) (w4 : w32 (i + 4) = i + 4) (i4 : inb (i + 4) (xs (-1)) = true) (w5 : w32 (i + 5) = i + 5) (i5 : inb (i + 5) (xs (-1)) = true) : ∃ (n' : Int × Int) (D' : Sto), Rel D' ∧ okCt n n' ∧ Rn (d + 200) 326 220 [some (2, (-1)), some (2, 1), some (2, 129), some (2, 175), some (0, i), none, none] [] (Sg xs n D) = Rn (d + 200) 326 1522 [some (2, (-1)), some (2, 1), some (2, 129), some (2, 175), some (0, i), none, none] [] (Sg xs n' D') := by
  obtain ⟨D1, D2, a, e1, e2, R2⟩ := ts_feed (xs := xs) (n := n) R (d + 160) (xs (i + 1)) (xs (i + 2)) (xs (i + 3)) (xs (i + 4)) (xs (i + 5))
  refine ⟨n, D2, R2, okCr, ?_⟩
  rw [h326_220, w1, w2, w3, w4, w5, if_pos i1, if_pos i2, if_pos i3, if_pos i4, if_pos i5, e1, cK0]
  show Rn (d + 200) 326 254 [some (2, (-1)), some (2, 1), some (2, 129), some (2, 175), some (0, i), none, none] [(0, a)] (Sg xs n D1) = _
  rw [h326_254, w1, w2, w3, w4, w5, if_pos i1, if_pos i2, if_pos i3, if_pos i4, if_pos i5, e2, cK0]
  show Rn (d + 200) 326 288 [some (2, (-1)), some (2, 1), some (2, 129), some (2, 175), some (0, i), none, none] [(0, a), (0, a)] (Sg xs n D2) = _
  rw [h326_288, if_pos rfl]
theorem cs1 (R : Rel D) (d : Nat) (w1 : w32 (i + 1) = i + 1) (i1 : inb (i + 1) (xs (-1)) = true) : ∃ (n' : Int × Int) (D' : Sto), Rel D' ∧ okCt n n' ∧ Rn (d + 200) 326 293 [some (2, (-1)), some (2, 1), some (2, 129), some (2, 175), some (0, i), none, none] [] (Sg xs n D) = Rn (d + 200) 326 1522 [some (2, (-1)), some (2, 1), some (2, 129), some (2, 175), some (0, i), none, none] [] (Sg xs n' D') := by
  obtain ⟨D1, D2, a, e1, e2, R2⟩ := ts_text (xs := xs) (n := n) R (d + 0) (xs (i + 1))
  refine ⟨n, D2, R2, okCr, ?_⟩
  rw [h326_293, w1, if_pos i1, e1, cK0]
  show Rn (d + 200) 326 303 [some (2, (-1)), some (2, 1), some (2, 129), some (2, 175), some (0, i), none, none] [(0, a)] (Sg xs n D1) = _
  rw [h326_303, w1, if_pos i1, e2, cK0]
  show Rn (d + 200) 326 313 [some (2, (-1)), some (2, 1), some (2, 129), some (2, 175), some (0, i), none, none] [(0, a), (0, a)] (Sg xs n D2) = _
  rw [h326_313, if_pos rfl]
theorem cs2 (R : Rel D) (d : Nat) (w1 : w32 (i + 1) = i + 1) (i1 : inb (i + 1) (xs (-1)) = true) : ∃ (n' : Int × Int) (D' : Sto), Rel D' ∧ okCt n n' ∧ Rn (d + 200) 326 318 [some (2, (-1)), some (2, 1), some (2, 129), some (2, 175), some (0, i), none, none] [] (Sg xs n D) = Rn (d + 200) 326 1522 [some (2, (-1)), some (2, 1), some (2, 129), some (2, 175), some (0, i), none, none] [] (Sg xs n' D') := by
  obtain ⟨D1, D2, a, e1, e2, R2⟩ := ts_fault (xs := xs) (n := n) R (d + 160) (xs (i + 1))
  refine ⟨n, D2, R2, okCr, ?_⟩
  rw [h326_318, w1, if_pos i1, e1, cK0]
  show Rn (d + 200) 326 328 [some (2, (-1)), some (2, 1), some (2, 129), some (2, 175), some (0, i), none, none] [(0, a)] (Sg xs n D1) = _
  rw [h326_328, w1, if_pos i1, e2, cK0]
  show Rn (d + 200) 326 338 [some (2, (-1)), some (2, 1), some (2, 129), some (2, 175), some (0, i), none, none] [(0, a), (0, a)] (Sg xs n D2) = _
  rw [h326_338, if_pos rfl]
theorem cs3 (R : Rel D) (d : Nat) (w1 : w32 (i + 1) = i + 1) (i1 : inb (i + 1) (xs (-1)) = true) : ∃ (n' : Int × Int) (D' : Sto), Rel D' ∧ okCt n n' ∧ Rn (d + 200) 326 343 [some (2, (-1)), some (2, 1), some (2, 129), some (2, 175), some (0, i), none, none] [] (Sg xs n D) = Rn (d + 200) 326 1522 [some (2, (-1)), some (2, 1), some (2, 129), some (2, 175), some (0, i), none, none] [] (Sg xs n' D') := by
  obtain ⟨D1, D2, a, e1, e2, R2⟩ := ts_named (xs := xs) (n := n) R (d + 160) (xs (i + 1))
  refine ⟨n, D2, R2, okCr, ?_⟩
  rw [h326_343, w1, if_pos i1, e1, cK0]
  show Rn (d + 200) 326 353 [some (2, (-1)), some (2, 1), some (2, 129), some (2, 175), some (0, i), none, none] [(0, a)] (Sg xs n D1) = _
  rw [h326_353, w1, if_pos i1, e2, cK0]
  show Rn (d + 200) 326 363 [some (2, (-1)), some (2, 1), some (2, 129), some (2, 175), some (0, i), none, none] [(0, a), (0, a)] (Sg xs n D2) = _
  rw [h326_363, if_pos rfl]
theorem cs5 (R : Rel D) (d : Nat) (w1 : w32 (i + 1) = i + 1) (i1 : inb (i + 1) (xs (-1)) = true) (w2 : w32 (i + 2) = i + 2) (i2 : inb (i + 2) (xs (-1)) = true) : ∃ (n' : Int × Int) (D' : Sto), Rel D' ∧ okCt n n' ∧ Rn (d + 200) 326 436 [some (2, (-1)), some (2, 1), some (2, 129), some (2, 175), some (0, i), none, none] [] (Sg xs n D) = Rn (d + 200) 326 1522 [some (2, (-1)), some (2, 1), some (2, 129), some (2, 175), some (0, i), none, none] [] (Sg xs n' D') := by
  obtain ⟨D1, D2, a, e1, e2, R2⟩ := ts_edge (xs := xs) (n := n) R (d + 160) (xs (i + 1)) (xs (i + 2))
  refine ⟨n, D2, R2, okCr, ?_⟩
  rw [h326_436, w1, w2, if_pos i1, if_pos i2, e1, cK0]
  show Rn (d + 200) 326 452 [some (2, (-1)), some (2, 1), some (2, 129), some (2, 175), some (0, i), none, none] [(0, a)] (Sg xs n D1) = _
  rw [h326_452, w1, w2, if_pos i1, if_pos i2, e2, cK0]
  show Rn (d + 200) 326 468 [some (2, (-1)), some (2, 1), some (2, 129), some (2, 175), some (0, i), none, none] [(0, a), (0, a)] (Sg xs n D2) = _
  rw [h326_468, if_pos rfl]
theorem cs6 (R : Rel D) (d : Nat) (w1 : w32 (i + 1) = i + 1) (i1 : inb (i + 1) (xs (-1)) = true) : ∃ (n' : Int × Int) (D' : Sto), Rel D' ∧ okCt n n' ∧ Rn (d + 200) 326 473 [some (2, (-1)), some (2, 1), some (2, 129), some (2, 175), some (0, i), none, none] [] (Sg xs n D) = Rn (d + 200) 326 1522 [some (2, (-1)), some (2, 1), some (2, 129), some (2, 175), some (0, i), none, none] [] (Sg xs n' D') := by
  obtain ⟨D1, D2, a, e1, e2, R2⟩ := ts_base (xs := xs) (n := n) R (d + 160) (xs (i + 1))
  refine ⟨n, D2, R2, okCr, ?_⟩
  rw [h326_473, w1, if_pos i1, e1, cK0]
  show Rn (d + 200) 326 483 [some (2, (-1)), some (2, 1), some (2, 129), some (2, 175), some (0, i), none, none] [(0, a)] (Sg xs n D1) = _
  rw [h326_483, w1, if_pos i1, e2, cK0]
  show Rn (d + 200) 326 493 [some (2, (-1)), some (2, 1), some (2, 129), some (2, 175), some (0, i), none, none] [(0, a), (0, a)] (Sg xs n D2) = _
  rw [h326_493, if_pos rfl]
theorem cs7 (R : Rel D) (d : Nat) (w1 : w32 (i + 1) = i + 1) (i1 : inb (i + 1) (xs (-1)) = true) : ∃ (n' : Int × Int) (D' : Sto), Rel D' ∧ okCt n n' ∧ Rn (d + 200) 326 498 [some (2, (-1)), some (2, 1), some (2, 129), some (2, 175), some (0, i), none, none] [] (Sg xs n D) = Rn (d + 200) 326 1522 [some (2, (-1)), some (2, 1), some (2, 129), some (2, 175), some (0, i), none, none] [] (Sg xs n' D') := by
  obtain ⟨D1, D2, a, e1, e2, R2⟩ := ts_diff (xs := xs) (n := n) R (d + 160) (xs (i + 1))
  refine ⟨n, D2, R2, okCr, ?_⟩
  rw [h326_498, w1, if_pos i1, e1, cK0]
  show Rn (d + 200) 326 508 [some (2, (-1)), some (2, 1), some (2, 129), some (2, 175), some (0, i), none, none] [(0, a)] (Sg xs n D1) = _
  rw [h326_508, w1, if_pos i1, e2, cK0]
  show Rn (d + 200) 326 518 [some (2, (-1)), some (2, 1), some (2, 129), some (2, 175), some (0, i), none, none] [(0, a), (0, a)] (Sg xs n D2) = _
  rw [h326_518, if_pos rfl]
theorem cs8 (R : Rel D) (d : Nat) (w1 : w32 (i + 1) = i + 1) (i1 : inb (i + 1) (xs (-1)) = true) (w2 : w32 (i + 2) = i + 2) (i2 : inb (i + 2) (xs (-1)) = true) : ∃ (n' : Int × Int) (D' : Sto), Rel D' ∧ okCt n n' ∧ Rn (d + 200) 326 523 [some (2, (-1)), some (2, 1), some (2, 129), some (2, 175), some (0, i), none, none] [] (Sg xs n D) = Rn (d + 200) 326 1522 [some (2, (-1)), some (2, 1), some (2, 129), some (2, 175), some (0, i), none, none] [] (Sg xs n' D') := by
  obtain ⟨D1, D2, a, e1, e2, R2⟩ := ts_law (xs := xs) (n := n) R (d + 160) (xs (i + 1)) (xs (i + 2))
  refine ⟨n, D2, R2, okCr, ?_⟩
  rw [h326_523, w1, w2, if_pos i1, if_pos i2, e1, cK1]
  show Rn (d + 200) 326 539 [some (2, (-1)), some (2, 1), some (2, 129), some (2, 175), some (0, i), none, none] [(1, a)] (Sg xs n D1) = _
  rw [h326_539, w1, w2, if_pos i1, if_pos i2, e2, cK1]
  show Rn (d + 200) 326 555 [some (2, (-1)), some (2, 1), some (2, 129), some (2, 175), some (0, i), none, none] [(1, a), (1, a)] (Sg xs n D2) = _
  rw [h326_555, if_pos ((lcZ a a).mpr rfl)]
theorem cs9 (R : Rel D) (d : Nat) (w1 : w32 (i + 1) = i + 1) (i1 : inb (i + 1) (xs (-1)) = true) : ∃ (n' : Int × Int) (D' : Sto), Rel D' ∧ okCt n n' ∧ Rn (d + 200) 326 561 [some (2, (-1)), some (2, 1), some (2, 129), some (2, 175), some (0, i), none, none] [] (Sg xs n D) = Rn (d + 200) 326 1522 [some (2, (-1)), some (2, 1), some (2, 129), some (2, 175), some (0, i), none, none] [] (Sg xs n' D') := by
  obtain ⟨D1, D2, a, e1, e2, R2⟩ := ts_jump (xs := xs) (n := n) R (d + 160) (xs (i + 1))
  refine ⟨n, D2, R2, okCr, ?_⟩
  rw [h326_561, w1, if_pos i1, e1, cK0]
  show Rn (d + 200) 326 571 [some (2, (-1)), some (2, 1), some (2, 129), some (2, 175), some (0, i), none, none] [(0, a)] (Sg xs n D1) = _
  rw [h326_571, w1, if_pos i1, e2, cK0]
  show Rn (d + 200) 326 581 [some (2, (-1)), some (2, 1), some (2, 129), some (2, 175), some (0, i), none, none] [(0, a), (0, a)] (Sg xs n D2) = _
  rw [h326_581, if_pos rfl]
theorem cs10 (R : Rel D) (d : Nat) (w1 : w32 (i + 1) = i + 1) (i1 : inb (i + 1) (xs (-1)) = true) : ∃ (n' : Int × Int) (D' : Sto), Rel D' ∧ okCt n n' ∧ Rn (d + 200) 326 586 [some (2, (-1)), some (2, 1), some (2, 129), some (2, 175), some (0, i), none, none] [] (Sg xs n D) = Rn (d + 200) 326 1522 [some (2, (-1)), some (2, 1), some (2, 129), some (2, 175), some (0, i), none, none] [] (Sg xs n' D') := by
  obtain ⟨D1, D2, a, e1, e2, R2⟩ := ts_check (xs := xs) (n := n) R (d + 160) (xs (i + 1))
  refine ⟨n, D2, R2, okCr, ?_⟩
  rw [h326_586, w1, if_pos i1, e1, cK0]
  show Rn (d + 200) 326 596 [some (2, (-1)), some (2, 1), some (2, 129), some (2, 175), some (0, i), none, none] [(0, a)] (Sg xs n D1) = _
  rw [h326_596, w1, if_pos i1, e2, cK0]
  show Rn (d + 200) 326 606 [some (2, (-1)), some (2, 1), some (2, 129), some (2, 175), some (0, i), none, none] [(0, a), (0, a)] (Sg xs n D2) = _
  rw [h326_606, if_pos rfl]
theorem cs11 (R : Rel D) (d : Nat) (w1 : w32 (i + 1) = i + 1) (i1 : inb (i + 1) (xs (-1)) = true) (w2 : w32 (i + 2) = i + 2) (i2 : inb (i + 2) (xs (-1)) = true) : ∃ (n' : Int × Int) (D' : Sto), Rel D' ∧ okCt n n' ∧ Rn (d + 200) 326 611 [some (2, (-1)), some (2, 1), some (2, 129), some (2, 175), some (0, i), none, none] [] (Sg xs n D) = Rn (d + 200) 326 1522 [some (2, (-1)), some (2, 1), some (2, 129), some (2, 175), some (0, i), none, none] [] (Sg xs n' D') := by
  obtain ⟨D1, D2, a, e1, e2, R2⟩ := ts_sign (xs := xs) (n := n) R (d + 160) (xs (i + 1)) (xs (i + 2))
  refine ⟨n, D2, R2, okCr, ?_⟩
  rw [h326_611, w1, w2, if_pos i1, if_pos i2, e1, cK0]
  show Rn (d + 200) 326 627 [some (2, (-1)), some (2, 1), some (2, 129), some (2, 175), some (0, i), none, none] [(0, a)] (Sg xs n D1) = _
  rw [h326_627, w1, w2, if_pos i1, if_pos i2, e2, cK0]
  show Rn (d + 200) 326 643 [some (2, (-1)), some (2, 1), some (2, 129), some (2, 175), some (0, i), none, none] [(0, a), (0, a)] (Sg xs n D2) = _
  rw [h326_643, if_pos rfl]
theorem cs12 (R : Rel D) (d : Nat) (w1 : w32 (i + 1) = i + 1) (i1 : inb (i + 1) (xs (-1)) = true) : ∃ (n' : Int × Int) (D' : Sto), Rel D' ∧ okCt n n' ∧ Rn (d + 200) 326 648 [some (2, (-1)), some (2, 1), some (2, 129), some (2, 175), some (0, i), none, none] [] (Sg xs n D) = Rn (d + 200) 326 1522 [some (2, (-1)), some (2, 1), some (2, 129), some (2, 175), some (0, i), none, none] [] (Sg xs n' D') := by
  obtain ⟨D1, D2, a, e1, e2, R2⟩ := ts_go (xs := xs) (n := n) R (d + 160) (xs (i + 1))
  refine ⟨n, D2, R2, okCr, ?_⟩
  rw [h326_648, w1, if_pos i1, e1, cK0]
  show Rn (d + 200) 326 658 [some (2, (-1)), some (2, 1), some (2, 129), some (2, 175), some (0, i), none, none] [(0, a)] (Sg xs n D1) = _
  rw [h326_658, w1, if_pos i1, e2, cK0]
  show Rn (d + 200) 326 668 [some (2, (-1)), some (2, 1), some (2, 129), some (2, 175), some (0, i), none, none] [(0, a), (0, a)] (Sg xs n D2) = _
  rw [h326_668, if_pos rfl]
theorem cs13 (R : Rel D) (d : Nat) (w1 : w32 (i + 1) = i + 1) (i1 : inb (i + 1) (xs (-1)) = true) (w2 : w32 (i + 2) = i + 2) (i2 : inb (i + 2) (xs (-1)) = true) : ∃ (n' : Int × Int) (D' : Sto), Rel D' ∧ okCt n n' ∧ Rn (d + 200) 326 673 [some (2, (-1)), some (2, 1), some (2, 129), some (2, 175), some (0, i), none, none] [] (Sg xs n D) = Rn (d + 200) 326 1522 [some (2, (-1)), some (2, 1), some (2, 129), some (2, 175), some (0, i), none, none] [] (Sg xs n' D') := by
  obtain ⟨D1, D2, a, e1, e2, R2⟩ := ts_ahead (xs := xs) (n := n) R (d + 160) (xs (i + 1)) (xs (i + 2))
  refine ⟨n, D2, R2, okCr, ?_⟩
  rw [h326_673, w1, w2, if_pos i1, if_pos i2, e1, cK0]
  show Rn (d + 200) 326 689 [some (2, (-1)), some (2, 1), some (2, 129), some (2, 175), some (0, i), none, none] [(0, a)] (Sg xs n D1) = _
  rw [h326_689, w1, w2, if_pos i1, if_pos i2, e2, cK0]
  show Rn (d + 200) 326 705 [some (2, (-1)), some (2, 1), some (2, 129), some (2, 175), some (0, i), none, none] [(0, a), (0, a)] (Sg xs n D2) = _
  rw [h326_705, if_pos rfl]
theorem cs14 (R : Rel D) (d : Nat) (w1 : w32 (i + 1) = i + 1) (i1 : inb (i + 1) (xs (-1)) = true) : ∃ (n' : Int × Int) (D' : Sto), Rel D' ∧ okCt n n' ∧ Rn (d + 200) 326 710 [some (2, (-1)), some (2, 1), some (2, 129), some (2, 175), some (0, i), none, none] [] (Sg xs n D) = Rn (d + 200) 326 1522 [some (2, (-1)), some (2, 1), some (2, 129), some (2, 175), some (0, i), none, none] [] (Sg xs n' D') := by
  obtain ⟨D1, D2, a, e1, e2, R2⟩ := ts_comes (xs := xs) (n := n) R (d + 160) (xs (i + 1))
  refine ⟨n, D2, R2, okCr, ?_⟩
  rw [h326_710, w1, if_pos i1, e1, cK0]
  show Rn (d + 200) 326 720 [some (2, (-1)), some (2, 1), some (2, 129), some (2, 175), some (0, i), none, none] [(0, a)] (Sg xs n D1) = _
  rw [h326_720, w1, if_pos i1, e2, cK0]
  show Rn (d + 200) 326 730 [some (2, (-1)), some (2, 1), some (2, 129), some (2, 175), some (0, i), none, none] [(0, a), (0, a)] (Sg xs n D2) = _
  rw [h326_730, if_pos rfl]
theorem cs15 (R : Rel D) (d : Nat) (w1 : w32 (i + 1) = i + 1) (i1 : inb (i + 1) (xs (-1)) = true) (w2 : w32 (i + 2) = i + 2) (i2 : inb (i + 2) (xs (-1)) = true) : ∃ (n' : Int × Int) (D' : Sto), Rel D' ∧ okCt n n' ∧ Rn (d + 200) 326 735 [some (2, (-1)), some (2, 1), some (2, 129), some (2, 175), some (0, i), none, none] [] (Sg xs n D) = Rn (d + 200) 326 1522 [some (2, (-1)), some (2, 1), some (2, 129), some (2, 175), some (0, i), none, none] [] (Sg xs n' D') := by
  obtain ⟨D1, D2, a, e1, e2, R2⟩ := ts_slip (xs := xs) (n := n) R (d + 160) (xs (i + 1)) (xs (i + 2))
  refine ⟨n, D2, R2, okCr, ?_⟩
  rw [h326_735, w1, w2, if_pos i1, if_pos i2, e1, cK0]
  show Rn (d + 200) 326 751 [some (2, (-1)), some (2, 1), some (2, 129), some (2, 175), some (0, i), none, none] [(0, a)] (Sg xs n D1) = _
  rw [h326_751, w1, w2, if_pos i1, if_pos i2, e2, cK0]
  show Rn (d + 200) 326 767 [some (2, (-1)), some (2, 1), some (2, 129), some (2, 175), some (0, i), none, none] [(0, a), (0, a)] (Sg xs n D2) = _
  rw [h326_767, if_pos rfl]
theorem cs16 (R : Rel D) (d : Nat) (w1 : w32 (i + 1) = i + 1) (i1 : inb (i + 1) (xs (-1)) = true) (w2 : w32 (i + 2) = i + 2) (i2 : inb (i + 2) (xs (-1)) = true) : ∃ (n' : Int × Int) (D' : Sto), Rel D' ∧ okCt n n' ∧ Rn (d + 200) 326 772 [some (2, (-1)), some (2, 1), some (2, 129), some (2, 175), some (0, i), none, none] [] (Sg xs n D) = Rn (d + 200) 326 1522 [some (2, (-1)), some (2, 1), some (2, 129), some (2, 175), some (0, i), none, none] [] (Sg xs n' D') := by
  obtain ⟨D1, D2, a, e1, e2, R2⟩ := ts_caught (xs := xs) (n := n) R (d + 140) (xs (i + 1)) (xs (i + 2))
  refine ⟨n, D2, R2, okCr, ?_⟩
  rw [h326_772, w1, w2, if_pos i1, if_pos i2, e1, cK0]
  show Rn (d + 200) 326 788 [some (2, (-1)), some (2, 1), some (2, 129), some (2, 175), some (0, i), none, none] [(0, a)] (Sg xs n D1) = _
  rw [h326_788, w1, w2, if_pos i1, if_pos i2, e2, cK0]
  show Rn (d + 200) 326 804 [some (2, (-1)), some (2, 1), some (2, 129), some (2, 175), some (0, i), none, none] [(0, a), (0, a)] (Sg xs n D2) = _
  rw [h326_804, if_pos rfl]
theorem cs17 (R : Rel D) (d : Nat) (w1 : w32 (i + 1) = i + 1) (i1 : inb (i + 1) (xs (-1)) = true) (w2 : w32 (i + 2) = i + 2) (i2 : inb (i + 2) (xs (-1)) = true) : ∃ (n' : Int × Int) (D' : Sto), Rel D' ∧ okCt n n' ∧ Rn (d + 200) 326 809 [some (2, (-1)), some (2, 1), some (2, 129), some (2, 175), some (0, i), none, none] [] (Sg xs n D) = Rn (d + 200) 326 1522 [some (2, (-1)), some (2, 1), some (2, 129), some (2, 175), some (0, i), none, none] [] (Sg xs n' D') := by
  obtain ⟨D1, D2, a, e1, e2, R2⟩ := ts_soonest (xs := xs) (n := n) R (d + 140) (xs (i + 1)) (xs (i + 2))
  refine ⟨n, D2, R2, okCr, ?_⟩
  rw [h326_809, w1, w2, if_pos i1, if_pos i2, e1, cK0]
  show Rn (d + 200) 326 825 [some (2, (-1)), some (2, 1), some (2, 129), some (2, 175), some (0, i), none, none] [(0, a)] (Sg xs n D1) = _
  rw [h326_825, w1, w2, if_pos i1, if_pos i2, e2, cK0]
  show Rn (d + 200) 326 841 [some (2, (-1)), some (2, 1), some (2, 129), some (2, 175), some (0, i), none, none] [(0, a), (0, a)] (Sg xs n D2) = _
  rw [h326_841, if_pos rfl]
theorem cs18 (R : Rel D) (d : Nat) (w1 : w32 (i + 1) = i + 1) (i1 : inb (i + 1) (xs (-1)) = true) (w2 : w32 (i + 2) = i + 2) (i2 : inb (i + 2) (xs (-1)) = true) : ∃ (n' : Int × Int) (D' : Sto), Rel D' ∧ okCt n n' ∧ Rn (d + 200) 326 846 [some (2, (-1)), some (2, 1), some (2, 129), some (2, 175), some (0, i), none, none] [] (Sg xs n D) = Rn (d + 200) 326 1522 [some (2, (-1)), some (2, 1), some (2, 129), some (2, 175), some (0, i), none, none] [] (Sg xs n' D') := by
  obtain ⟨D1, D2, a, e1, e2, R2⟩ := ts_beyond (xs := xs) (n := n) R (d + 140) (xs (i + 1)) (xs (i + 2))
  refine ⟨n, D2, R2, okCr, ?_⟩
  rw [h326_846, w1, w2, if_pos i1, if_pos i2, e1, cK0]
  show Rn (d + 200) 326 862 [some (2, (-1)), some (2, 1), some (2, 129), some (2, 175), some (0, i), none, none] [(0, a)] (Sg xs n D1) = _
  rw [h326_862, w1, w2, if_pos i1, if_pos i2, e2, cK0]
  show Rn (d + 200) 326 878 [some (2, (-1)), some (2, 1), some (2, 129), some (2, 175), some (0, i), none, none] [(0, a), (0, a)] (Sg xs n D2) = _
  rw [h326_878, if_pos rfl]
theorem cs19 (R : Rel D) (d : Nat) (w1 : w32 (i + 1) = i + 1) (i1 : inb (i + 1) (xs (-1)) = true) : ∃ (n' : Int × Int) (D' : Sto), Rel D' ∧ okCt n n' ∧ Rn (d + 200) 326 883 [some (2, (-1)), some (2, 1), some (2, 129), some (2, 175), some (0, i), none, none] [] (Sg xs n D) = Rn (d + 200) 326 1522 [some (2, (-1)), some (2, 1), some (2, 129), some (2, 175), some (0, i), none, none] [] (Sg xs n' D') := by
  obtain ⟨D1, D2, a, e1, e2, R2⟩ := ts_cover (xs := xs) (n := n) R (d + 140) (xs (i + 1))
  refine ⟨n, D2, R2, okCr, ?_⟩
  rw [h326_883, w1, if_pos i1, e1, cK0]
  show Rn (d + 200) 326 893 [some (2, (-1)), some (2, 1), some (2, 129), some (2, 175), some (0, i), none, none] [(0, a)] (Sg xs n D1) = _
  rw [h326_893, w1, if_pos i1, e2, cK0]
  show Rn (d + 200) 326 903 [some (2, (-1)), some (2, 1), some (2, 129), some (2, 175), some (0, i), none, none] [(0, a), (0, a)] (Sg xs n D2) = _
  rw [h326_903, if_pos rfl]
theorem cs20 (R : Rel D) (d : Nat) (w1 : w32 (i + 1) = i + 1) (i1 : inb (i + 1) (xs (-1)) = true) : ∃ (n' : Int × Int) (D' : Sto), Rel D' ∧ okCt n n' ∧ Rn (d + 200) 326 908 [some (2, (-1)), some (2, 1), some (2, 129), some (2, 175), some (0, i), none, none] [] (Sg xs n D) = Rn (d + 200) 326 1522 [some (2, (-1)), some (2, 1), some (2, 129), some (2, 175), some (0, i), none, none] [] (Sg xs n' D') := by
  obtain ⟨D1, D2, a, e1, e2, R2⟩ := ts_checks (xs := xs) (n := n) R (d + 140) (xs (i + 1))
  refine ⟨n, D2, R2, okCr, ?_⟩
  rw [h326_908, w1, if_pos i1, e1, cK0]
  show Rn (d + 200) 326 918 [some (2, (-1)), some (2, 1), some (2, 129), some (2, 175), some (0, i), none, none] [(0, a)] (Sg xs n D1) = _
  rw [h326_918, w1, if_pos i1, e2, cK0]
  show Rn (d + 200) 326 928 [some (2, (-1)), some (2, 1), some (2, 129), some (2, 175), some (0, i), none, none] [(0, a), (0, a)] (Sg xs n D2) = _
  rw [h326_928, if_pos rfl]
theorem cs21 (R : Rel D) (d : Nat) : ∃ (n' : Int × Int) (D' : Sto), Rel D' ∧ okCt n n' ∧ Rn (d + 200) 326 933 [some (2, (-1)), some (2, 1), some (2, 129), some (2, 175), some (0, i), none, none] [] (Sg xs n D) = Rn (d + 200) 326 1522 [some (2, (-1)), some (2, 1), some (2, 129), some (2, 175), some (0, i), none, none] [] (Sg xs n' D') := by
  obtain ⟨D1, D2, a, e1, e2, R2⟩ := ts_bases (xs := xs) (n := n) R (d + 140) 
  refine ⟨n, D2, R2, okCr, ?_⟩
  rw [h326_933, e1, cK0]
  show Rn (d + 200) 326 937 [some (2, (-1)), some (2, 1), some (2, 129), some (2, 175), some (0, i), none, none] [(0, a)] (Sg xs n D1) = _
  rw [h326_937, e2, cK0]
  show Rn (d + 200) 326 941 [some (2, (-1)), some (2, 1), some (2, 129), some (2, 175), some (0, i), none, none] [(0, a), (0, a)] (Sg xs n D2) = _
  rw [h326_941, if_pos rfl]
theorem cs22 (R : Rel D) (d : Nat) (w1 : w32 (i + 1) = i + 1) (i1 : inb (i + 1) (xs (-1)) = true) : ∃ (n' : Int × Int) (D' : Sto), Rel D' ∧ okCt n n' ∧ Rn (d + 200) 326 946 [some (2, (-1)), some (2, 1), some (2, 129), some (2, 175), some (0, i), none, none] [] (Sg xs n D) = Rn (d + 200) 326 1522 [some (2, (-1)), some (2, 1), some (2, 129), some (2, 175), some (0, i), none, none] [] (Sg xs n' D') := by
  obtain ⟨D1, D2, a, e1, e2, R2⟩ := ts_only (xs := xs) (n := n) R (d + 160) (xs (i + 1))
  refine ⟨n, D2, R2, okCr, ?_⟩
  rw [h326_946, w1, if_pos i1, e1, cK0]
  show Rn (d + 200) 326 956 [some (2, (-1)), some (2, 1), some (2, 129), some (2, 175), some (0, i), none, none] [(0, a)] (Sg xs n D1) = _
  rw [h326_956, w1, if_pos i1, e2, cK0]
  show Rn (d + 200) 326 966 [some (2, (-1)), some (2, 1), some (2, 129), some (2, 175), some (0, i), none, none] [(0, a), (0, a)] (Sg xs n D2) = _
  rw [h326_966, if_pos rfl]
theorem cs23 (R : Rel D) (d : Nat) (w1 : w32 (i + 1) = i + 1) (i1 : inb (i + 1) (xs (-1)) = true) (w2 : w32 (i + 2) = i + 2) (i2 : inb (i + 2) (xs (-1)) = true) : ∃ (n' : Int × Int) (D' : Sto), Rel D' ∧ okCt n n' ∧ Rn (d + 200) 326 971 [some (2, (-1)), some (2, 1), some (2, 129), some (2, 175), some (0, i), none, none] [] (Sg xs n D) = Rn (d + 200) 326 1522 [some (2, (-1)), some (2, 1), some (2, 129), some (2, 175), some (0, i), none, none] [] (Sg xs n' D') := by
  obtain ⟨D1, D2, a, e1, e2, R2⟩ := ts_far (xs := xs) (n := n) R (d + 160) (xs (i + 1)) (xs (i + 2))
  refine ⟨n, D2, R2, okCr, ?_⟩
  rw [h326_971, w1, w2, if_pos i1, if_pos i2, e1, cK0]
  show Rn (d + 200) 326 987 [some (2, (-1)), some (2, 1), some (2, 129), some (2, 175), some (0, i), none, none] [(0, a)] (Sg xs n D1) = _
  rw [h326_987, w1, w2, if_pos i1, if_pos i2, e2, cK0]
  show Rn (d + 200) 326 1003 [some (2, (-1)), some (2, 1), some (2, 129), some (2, 175), some (0, i), none, none] [(0, a), (0, a)] (Sg xs n D2) = _
  rw [h326_1003, if_pos rfl]
theorem cs24 (R : Rel D) (d : Nat) (w1 : w32 (i + 1) = i + 1) (i1 : inb (i + 1) (xs (-1)) = true) : ∃ (n' : Int × Int) (D' : Sto), Rel D' ∧ okCt n n' ∧ Rn (d + 200) 326 1008 [some (2, (-1)), some (2, 1), some (2, 129), some (2, 175), some (0, i), none, none] [] (Sg xs n D) = Rn (d + 200) 326 1522 [some (2, (-1)), some (2, 1), some (2, 129), some (2, 175), some (0, i), none, none] [] (Sg xs n' D') := by
  obtain ⟨D1, D2, a, e1, e2, R2⟩ := ts_ring (xs := xs) (n := n) R (d + 160) (xs (i + 1))
  refine ⟨n, D2, R2, okCr, ?_⟩
  rw [h326_1008, w1, if_pos i1, e1, cK0]
  show Rn (d + 200) 326 1018 [some (2, (-1)), some (2, 1), some (2, 129), some (2, 175), some (0, i), none, none] [(0, a)] (Sg xs n D1) = _
  rw [h326_1018, w1, if_pos i1, e2, cK0]
  show Rn (d + 200) 326 1028 [some (2, (-1)), some (2, 1), some (2, 129), some (2, 175), some (0, i), none, none] [(0, a), (0, a)] (Sg xs n D2) = _
  rw [h326_1028, if_pos rfl]
theorem cs25 (R : Rel D) (d : Nat) (w1 : w32 (i + 1) = i + 1) (i1 : inb (i + 1) (xs (-1)) = true) : ∃ (n' : Int × Int) (D' : Sto), Rel D' ∧ okCt n n' ∧ Rn (d + 200) 326 1033 [some (2, (-1)), some (2, 1), some (2, 129), some (2, 175), some (0, i), none, none] [] (Sg xs n D) = Rn (d + 200) 326 1522 [some (2, (-1)), some (2, 1), some (2, 129), some (2, 175), some (0, i), none, none] [] (Sg xs n' D') := by
  obtain ⟨D1, D2, a, e1, e2, R2⟩ := ts_nearest (xs := xs) (n := n) R (d + 160) (xs (i + 1))
  refine ⟨n, D2, R2, okCr, ?_⟩
  rw [h326_1033, w1, if_pos i1, e1, cK0]
  show Rn (d + 200) 326 1043 [some (2, (-1)), some (2, 1), some (2, 129), some (2, 175), some (0, i), none, none] [(0, a)] (Sg xs n D1) = _
  rw [h326_1043, w1, if_pos i1, e2, cK0]
  show Rn (d + 200) 326 1053 [some (2, (-1)), some (2, 1), some (2, 129), some (2, 175), some (0, i), none, none] [(0, a), (0, a)] (Sg xs n D2) = _
  rw [h326_1053, if_pos rfl]
theorem cs26 (R : Rel D) (d : Nat) (w1 : w32 (i + 1) = i + 1) (i1 : inb (i + 1) (xs (-1)) = true) (w2 : w32 (i + 2) = i + 2) (i2 : inb (i + 2) (xs (-1)) = true) (w3 : w32 (i + 3) = i + 3) (i3 : inb (i + 3) (xs (-1)) = true) : ∃ (n' : Int × Int) (D' : Sto), Rel D' ∧ okCt n n' ∧ Rn (d + 200) 326 1058 [some (2, (-1)), some (2, 1), some (2, 129), some (2, 175), some (0, i), none, none] [] (Sg xs n D) = Rn (d + 200) 326 1522 [some (2, (-1)), some (2, 1), some (2, 129), some (2, 175), some (0, i), none, none] [] (Sg xs n' D') := by
  obtain ⟨D1, D2, a, e1, e2, R2⟩ := ts_leaders (xs := xs) (n := n) R (d + 160) (xs (i + 1)) (xs (i + 2)) (xs (i + 3))
  refine ⟨n, D2, R2, okCr, ?_⟩
  rw [h326_1058, w1, w2, w3, if_pos i1, if_pos i2, if_pos i3, e1, cK0]
  show Rn (d + 200) 326 1080 [some (2, (-1)), some (2, 1), some (2, 129), some (2, 175), some (0, i), none, none] [(0, a)] (Sg xs n D1) = _
  rw [h326_1080, w1, w2, w3, if_pos i1, if_pos i2, if_pos i3, e2, cK0]
  show Rn (d + 200) 326 1102 [some (2, (-1)), some (2, 1), some (2, 129), some (2, 175), some (0, i), none, none] [(0, a), (0, a)] (Sg xs n D2) = _
  rw [h326_1102, if_pos rfl]
theorem cs27 (R : Rel D) (d : Nat) (w1 : w32 (i + 1) = i + 1) (i1 : inb (i + 1) (xs (-1)) = true) (w2 : w32 (i + 2) = i + 2) (i2 : inb (i + 2) (xs (-1)) = true) : ∃ (n' : Int × Int) (D' : Sto), Rel D' ∧ okCt n n' ∧ Rn (d + 200) 326 1107 [some (2, (-1)), some (2, 1), some (2, 129), some (2, 175), some (0, i), none, none] [] (Sg xs n D) = Rn (d + 200) 326 1522 [some (2, (-1)), some (2, 1), some (2, 129), some (2, 175), some (0, i), none, none] [] (Sg xs n' D') := by
  obtain ⟨D1, D2, a, e1, e2, R2⟩ := ts_holds (xs := xs) (n := n) R (d + 160) (xs (i + 1)) (xs (i + 2))
  refine ⟨n, D2, R2, okCr, ?_⟩
  rw [h326_1107, w1, w2, if_pos i1, if_pos i2, e1, cK1]
  show Rn (d + 200) 326 1123 [some (2, (-1)), some (2, 1), some (2, 129), some (2, 175), some (0, i), none, none] [(1, a)] (Sg xs n D1) = _
  rw [h326_1123, w1, w2, if_pos i1, if_pos i2, e2, cK1]
  show Rn (d + 200) 326 1139 [some (2, (-1)), some (2, 1), some (2, 129), some (2, 175), some (0, i), none, none] [(1, a), (1, a)] (Sg xs n D2) = _
  rw [h326_1139, if_pos ((lcZ a a).mpr rfl)]
theorem cs28 (R : Rel D) (d : Nat) (w1 : w32 (i + 1) = i + 1) (i1 : inb (i + 1) (xs (-1)) = true) (w2 : w32 (i + 2) = i + 2) (i2 : inb (i + 2) (xs (-1)) = true) : ∃ (n' : Int × Int) (D' : Sto), Rel D' ∧ okCt n n' ∧ Rn (d + 200) 326 1145 [some (2, (-1)), some (2, 1), some (2, 129), some (2, 175), some (0, i), none, none] [] (Sg xs n D) = Rn (d + 200) 326 1522 [some (2, (-1)), some (2, 1), some (2, 129), some (2, 175), some (0, i), none, none] [] (Sg xs n' D') := by
  obtain ⟨D1, D2, a, e1, e2, R2⟩ := ts_ways (xs := xs) (n := n) R (d + 160) (xs (i + 1)) (xs (i + 2))
  refine ⟨n, D2, R2, okCr, ?_⟩
  rw [h326_1145, w1, w2, if_pos i1, if_pos i2, e1, cK0]
  show Rn (d + 200) 326 1161 [some (2, (-1)), some (2, 1), some (2, 129), some (2, 175), some (0, i), none, none] [(0, a)] (Sg xs n D1) = _
  rw [h326_1161, w1, w2, if_pos i1, if_pos i2, e2, cK0]
  show Rn (d + 200) 326 1177 [some (2, (-1)), some (2, 1), some (2, 129), some (2, 175), some (0, i), none, none] [(0, a), (0, a)] (Sg xs n D2) = _
  rw [h326_1177, if_pos rfl]
theorem cs29 (R : Rel D) (d : Nat) : ∃ (n' : Int × Int) (D' : Sto), Rel D' ∧ okCt n n' ∧ Rn (d + 200) 326 1182 [some (2, (-1)), some (2, 1), some (2, 129), some (2, 175), some (0, i), none, none] [] (Sg xs n D) = Rn (d + 200) 326 1522 [some (2, (-1)), some (2, 1), some (2, 129), some (2, 175), some (0, i), none, none] [] (Sg xs n' D') := by
  obtain ⟨D1, D2, a, e1, e2, R2⟩ := ts_alike (xs := xs) (n := n) R (d + 160) 
  refine ⟨n, D2, R2, okCr, ?_⟩
  rw [h326_1182, e1, cK0]
  show Rn (d + 200) 326 1186 [some (2, (-1)), some (2, 1), some (2, 129), some (2, 175), some (0, i), none, none] [(0, a)] (Sg xs n D1) = _
  rw [h326_1186, e2, cK0]
  show Rn (d + 200) 326 1190 [some (2, (-1)), some (2, 1), some (2, 129), some (2, 175), some (0, i), none, none] [(0, a), (0, a)] (Sg xs n D2) = _
  rw [h326_1190, if_pos rfl]
theorem cs31 (R : Rel D) (d : Nat) (w1 : w32 (i + 1) = i + 1) (i1 : inb (i + 1) (xs (-1)) = true) : ∃ (n' : Int × Int) (D' : Sto), Rel D' ∧ okCt n n' ∧ Rn (d + 200) 326 1260 [some (2, (-1)), some (2, 1), some (2, 129), some (2, 175), some (0, i), none, none] [] (Sg xs n D) = Rn (d + 200) 326 1522 [some (2, (-1)), some (2, 1), some (2, 129), some (2, 175), some (0, i), none, none] [] (Sg xs n' D') := by
  obtain ⟨D1, D2, a, e1, e2, R2⟩ := ts_strike (xs := xs) (n := n) R (d + 160) (xs (i + 1))
  refine ⟨n, D2, R2, okCr, ?_⟩
  rw [h326_1260, w1, if_pos i1, e1, cK0]
  show Rn (d + 200) 326 1270 [some (2, (-1)), some (2, 1), some (2, 129), some (2, 175), some (0, i), none, none] [(0, a)] (Sg xs n D1) = _
  rw [h326_1270, w1, if_pos i1, e2, cK0]
  show Rn (d + 200) 326 1280 [some (2, (-1)), some (2, 1), some (2, 129), some (2, 175), some (0, i), none, none] [(0, a), (0, a)] (Sg xs n D2) = _
  rw [h326_1280, if_pos rfl]
theorem cs32 (R : Rel D) (d : Nat) (w1 : w32 (i + 1) = i + 1) (i1 : inb (i + 1) (xs (-1)) = true) : ∃ (n' : Int × Int) (D' : Sto), Rel D' ∧ okCt n n' ∧ Rn (d + 200) 326 1285 [some (2, (-1)), some (2, 1), some (2, 129), some (2, 175), some (0, i), none, none] [] (Sg xs n D) = Rn (d + 200) 326 1522 [some (2, (-1)), some (2, 1), some (2, 129), some (2, 175), some (0, i), none, none] [] (Sg xs n' D') := by
  obtain ⟨D1, D2, a, e1, e2, R2⟩ := ts_known (xs := xs) (n := n) R (d + 160) (xs (i + 1))
  refine ⟨n, D2, R2, okCr, ?_⟩
  rw [h326_1285, w1, if_pos i1, e1, cK0]
  show Rn (d + 200) 326 1295 [some (2, (-1)), some (2, 1), some (2, 129), some (2, 175), some (0, i), none, none] [(0, a)] (Sg xs n D1) = _
  rw [h326_1295, w1, if_pos i1, e2, cK0]
  show Rn (d + 200) 326 1305 [some (2, (-1)), some (2, 1), some (2, 129), some (2, 175), some (0, i), none, none] [(0, a), (0, a)] (Sg xs n D2) = _
  rw [h326_1305, if_pos rfl]
theorem cs33 (R : Rel D) (d : Nat) (w1 : w32 (i + 1) = i + 1) (i1 : inb (i + 1) (xs (-1)) = true) : ∃ (n' : Int × Int) (D' : Sto), Rel D' ∧ okCt n n' ∧ Rn (d + 200) 326 1310 [some (2, (-1)), some (2, 1), some (2, 129), some (2, 175), some (0, i), none, none] [] (Sg xs n D) = Rn (d + 200) 326 1522 [some (2, (-1)), some (2, 1), some (2, 129), some (2, 175), some (0, i), none, none] [] (Sg xs n' D') := by
  obtain ⟨D1, D2, a, e1, e2, R2⟩ := ts_signs (xs := xs) (n := n) R (d + 160) (xs (i + 1))
  refine ⟨n, D2, R2, okCr, ?_⟩
  rw [h326_1310, w1, if_pos i1, e1, cK0]
  show Rn (d + 200) 326 1320 [some (2, (-1)), some (2, 1), some (2, 129), some (2, 175), some (0, i), none, none] [(0, a)] (Sg xs n D1) = _
  rw [h326_1320, w1, if_pos i1, e2, cK0]
  show Rn (d + 200) 326 1330 [some (2, (-1)), some (2, 1), some (2, 129), some (2, 175), some (0, i), none, none] [(0, a), (0, a)] (Sg xs n D2) = _
  rw [h326_1330, if_pos rfl]
theorem cs34 (R : Rel D) (d : Nat) (w1 : w32 (i + 1) = i + 1) (i1 : inb (i + 1) (xs (-1)) = true) (w2 : w32 (i + 2) = i + 2) (i2 : inb (i + 2) (xs (-1)) = true) : ∃ (n' : Int × Int) (D' : Sto), Rel D' ∧ okCt n n' ∧ Rn (d + 200) 326 1335 [some (2, (-1)), some (2, 1), some (2, 129), some (2, 175), some (0, i), none, none] [] (Sg xs n D) = Rn (d + 200) 326 1522 [some (2, (-1)), some (2, 1), some (2, 129), some (2, 175), some (0, i), none, none] [] (Sg xs n' D') := by
  obtain ⟨D1, D2, a, e1, e2, R2⟩ := ts_ask (xs := xs) (n := n) R (d + 160) (xs (i + 1)) (xs (i + 2))
  refine ⟨n, D2, R2, okCr, ?_⟩
  rw [h326_1335, w1, w2, if_pos i1, if_pos i2, e1, cK0]
  show Rn (d + 200) 326 1351 [some (2, (-1)), some (2, 1), some (2, 129), some (2, 175), some (0, i), none, none] [(0, a)] (Sg xs n D1) = _
  rw [h326_1351, w1, w2, if_pos i1, if_pos i2, e2, cK0]
  show Rn (d + 200) 326 1367 [some (2, (-1)), some (2, 1), some (2, 129), some (2, 175), some (0, i), none, none] [(0, a), (0, a)] (Sg xs n D2) = _
  rw [h326_1367, if_pos rfl]
theorem cs35 (R : Rel D) (d : Nat) (w1 : w32 (i + 1) = i + 1) (i1 : inb (i + 1) (xs (-1)) = true) (w2 : w32 (i + 2) = i + 2) (i2 : inb (i + 2) (xs (-1)) = true) (h31 : xs (i + 1) < 2147483648) : ∃ (n' : Int × Int) (D' : Sto), Rel D' ∧ okCt n n' ∧ Rn (d + 200) 326 1372 [some (2, (-1)), some (2, 1), some (2, 129), some (2, 175), some (0, i), none, none] [] (Sg xs n D) = Rn (d + 200) 326 1522 [some (2, (-1)), some (2, 1), some (2, 129), some (2, 175), some (0, i), none, none] [] (Sg xs n' D') := by
  obtain ⟨D1, D2, a, e1, e2, R2⟩ := ts_chance (xs := xs) (n := n) R (d + 160) (xs (i + 1)) (xs (i + 2)) h31
  refine ⟨n, D2, R2, okCr, ?_⟩
  rw [h326_1372, w1, w2, if_pos i1, if_pos i2, e1, cK0]
  show Rn (d + 200) 326 1388 [some (2, (-1)), some (2, 1), some (2, 129), some (2, 175), some (0, i), none, none] [(0, a)] (Sg xs n D1) = _
  rw [h326_1388, w1, w2, if_pos i1, if_pos i2, e2, cK0]
  show Rn (d + 200) 326 1404 [some (2, (-1)), some (2, 1), some (2, 129), some (2, 175), some (0, i), none, none] [(0, a), (0, a)] (Sg xs n D2) = _
  rw [h326_1404, if_pos rfl]
theorem cs36 (R : Rel D) (d : Nat) (w1 : w32 (i + 1) = i + 1) (i1 : inb (i + 1) (xs (-1)) = true) (w2 : w32 (i + 2) = i + 2) (i2 : inb (i + 2) (xs (-1)) = true) (w3 : w32 (i + 3) = i + 3) (i3 : inb (i + 3) (xs (-1)) = true) : ∃ (n' : Int × Int) (D' : Sto), Rel D' ∧ okCt n n' ∧ Rn (d + 200) 326 1409 [some (2, (-1)), some (2, 1), some (2, 129), some (2, 175), some (0, i), none, none] [] (Sg xs n D) = Rn (d + 200) 326 1522 [some (2, (-1)), some (2, 1), some (2, 129), some (2, 175), some (0, i), none, none] [] (Sg xs n' D') := by
  obtain ⟨D1, D2, a, e1, e2, R2⟩ := ts_tried (xs := xs) (n := n) R (d + 160) (xs (i + 1)) (xs (i + 2)) (xs (i + 3))
  refine ⟨n, D2, R2, okCr, ?_⟩
  rw [h326_1409, w1, w2, w3, if_pos i1, if_pos i2, if_pos i3, e1, cK0]
  show Rn (d + 200) 326 1431 [some (2, (-1)), some (2, 1), some (2, 129), some (2, 175), some (0, i), none, none] [(0, a)] (Sg xs n D1) = _
  rw [h326_1431, w1, w2, w3, if_pos i1, if_pos i2, if_pos i3, e2, cK0]
  show Rn (d + 200) 326 1453 [some (2, (-1)), some (2, 1), some (2, 129), some (2, 175), some (0, i), none, none] [(0, a), (0, a)] (Sg xs n D2) = _
  rw [h326_1453, if_pos rfl]
theorem cs37 (R : Rel D) (d : Nat) : ∃ (n' : Int × Int) (D' : Sto), Rel D' ∧ okCt n n' ∧ Rn (d + 200) 326 1458 [some (2, (-1)), some (2, 1), some (2, 129), some (2, 175), some (0, i), none, none] [] (Sg xs n D) = Rn (d + 200) 326 1522 [some (2, (-1)), some (2, 1), some (2, 129), some (2, 175), some (0, i), none, none] [] (Sg xs n' D') := by
  obtain ⟨D1, D2, a, e1, e2, R2⟩ := ts_undo (xs := xs) (n := n) R (d + 160) 
  refine ⟨n, D2, R2, okCr, ?_⟩
  rw [h326_1458, e1, cK0]
  show Rn (d + 200) 326 1462 [some (2, (-1)), some (2, 1), some (2, 129), some (2, 175), some (0, i), none, none] [(0, a)] (Sg xs n D1) = _
  rw [h326_1462, e2, cK0]
  show Rn (d + 200) 326 1466 [some (2, (-1)), some (2, 1), some (2, 129), some (2, 175), some (0, i), none, none] [(0, a), (0, a)] (Sg xs n D2) = _
  rw [h326_1466, if_pos rfl]
theorem cs38 (R : Rel D) (d : Nat) : ∃ (n' : Int × Int) (D' : Sto), Rel D' ∧ okCt n n' ∧ Rn (d + 200) 326 1471 [some (2, (-1)), some (2, 1), some (2, 129), some (2, 175), some (0, i), none, none] [] (Sg xs n D) = Rn (d + 200) 326 1522 [some (2, (-1)), some (2, 1), some (2, 129), some (2, 175), some (0, i), none, none] [] (Sg xs n' D') := by
  obtain ⟨D1, D2, a, e1, e2, R2⟩ := ts_keep (xs := xs) (n := n) R (d + 160) 
  refine ⟨n, D2, R2, okCr, ?_⟩
  rw [h326_1471, e1, cK0]
  show Rn (d + 200) 326 1475 [some (2, (-1)), some (2, 1), some (2, 129), some (2, 175), some (0, i), none, none] [(0, a)] (Sg xs n D1) = _
  rw [h326_1475, e2, cK0]
  show Rn (d + 200) 326 1479 [some (2, (-1)), some (2, 1), some (2, 129), some (2, 175), some (0, i), none, none] [(0, a), (0, a)] (Sg xs n D2) = _
  rw [h326_1479, if_pos rfl]
theorem cs39 (R : Rel D) (d : Nat) : ∃ (n' : Int × Int) (D' : Sto), Rel D' ∧ okCt n n' ∧ Rn (d + 200) 326 1484 [some (2, (-1)), some (2, 1), some (2, 129), some (2, 175), some (0, i), none, none] [] (Sg xs n D) = Rn (d + 200) 326 1522 [some (2, (-1)), some (2, 1), some (2, 129), some (2, 175), some (0, i), none, none] [] (Sg xs n' D') := by
  obtain ⟨D1, D2, a, e1, e2, R2⟩ := ts_back (xs := xs) (n := n) R (d + 160) 
  refine ⟨n, D2, R2, okCr, ?_⟩
  rw [h326_1484, e1, cK0]
  show Rn (d + 200) 326 1488 [some (2, (-1)), some (2, 1), some (2, 129), some (2, 175), some (0, i), none, none] [(0, a)] (Sg xs n D1) = _
  rw [h326_1488, e2, cK0]
  show Rn (d + 200) 326 1492 [some (2, (-1)), some (2, 1), some (2, 129), some (2, 175), some (0, i), none, none] [(0, a), (0, a)] (Sg xs n D2) = _
  rw [h326_1492, if_pos rfl]
theorem cs40 (R : Rel D) (d : Nat) (w1 : w32 (i + 1) = i + 1) (i1 : inb (i + 1) (xs (-1)) = true) : ∃ (n' : Int × Int) (D' : Sto), Rel D' ∧ okCt n n' ∧ Rn (d + 200) 326 1497 [some (2, (-1)), some (2, 1), some (2, 129), some (2, 175), some (0, i), none, none] [] (Sg xs n D) = Rn (d + 200) 326 1522 [some (2, (-1)), some (2, 1), some (2, 129), some (2, 175), some (0, i), none, none] [] (Sg xs n' D') := by
  obtain ⟨D1, D2, a, e1, e2, R2⟩ := ts_count (xs := xs) (n := n) R (d + 160) (xs (i + 1))
  refine ⟨n, D2, R2, okCr, ?_⟩
  rw [h326_1497, w1, if_pos i1, e1, cK0]
  show Rn (d + 200) 326 1507 [some (2, (-1)), some (2, 1), some (2, 129), some (2, 175), some (0, i), none, none] [(0, a)] (Sg xs n D1) = _
  rw [h326_1507, w1, if_pos i1, e2, cK0]
  show Rn (d + 200) 326 1517 [some (2, (-1)), some (2, 1), some (2, 129), some (2, 175), some (0, i), none, none] [(0, a), (0, a)] (Sg xs n D2) = _
  rw [h326_1517, if_pos rfl]
theorem cs30 (R : Rel D) (d : Nat) (w1 : w32 (i + 1) = i + 1) (i1 : inb (i + 1) (xs (-1)) = true) (w2 : w32 (i + 2) = i + 2) (i2 : inb (i + 2) (xs (-1)) = true) (w3 : w32 (i + 3) = i + 3) (i3 : inb (i + 3) (xs (-1)) = true) : ∃ (n' : Int × Int) (D' : Sto), Rel D' ∧ okCt n n' ∧ Rn (d + 200) 326 1195 [some (2, (-1)), some (2, 1), some (2, 129), some (2, 175), some (0, i), none, none] [] (Sg xs n D) = Rn (d + 200) 326 1522 [some (2, (-1)), some (2, 1), some (2, 129), some (2, 175), some (0, i), none, none] [] (Sg xs n' D') := by
  have hr : (if xs (i + 3) = 0 then (0 : Int) else 1) = 0 ∨ (if xs (i + 3) = 0 then (0 : Int) else 1) = 1 := by
    by_cases q : xs (i + 3) = 0
    · rw [if_pos q]; exact Or.inl rfl
    · rw [if_neg q]; exact Or.inr rfl
  obtain ⟨D1, D2, a, e1, e2, R2⟩ := ts_note (xs := xs) (n := n) R (d + 160) (xs (i + 1)) (xs (i + 2)) _ hr
  refine ⟨n, D2, R2, okCr, ?_⟩
  have s1 : Rn (d + 200) 326 1195 [some (2, (-1)), some (2, 1), some (2, 129), some (2, 175), some (0, i), none, none] [] (Sg xs n D) = Rn (d + 200) 326 1222 [some (2, (-1)), some (2, 1), some (2, 129), some (2, 175), some (0, i), none, none] [(0, if xs (i + 3) = 0 then (0 : Int) else 1), (0, xs (i + 2)), (0, xs (i + 1)), (2, 1)] (Sg xs n D) := by
    rw [h326_1195, w1, w2, w3, if_pos i1, if_pos i2, if_pos i3]
    by_cases q : xs (i + 3) = 0
    · rw [if_pos q, if_pos q]
    · rw [if_neg q, if_neg q]
  have s2 : Rn (d + 200) 326 1225 [some (2, (-1)), some (2, 1), some (2, 129), some (2, 175), some (0, i), none, none] [(0, a)] (Sg xs n D1) = Rn (d + 200) 326 1252 [some (2, (-1)), some (2, 1), some (2, 129), some (2, 175), some (0, i), none, none] [(0, if xs (i + 3) = 0 then (0 : Int) else 1), (0, xs (i + 2)), (0, xs (i + 1)), (2, 129), (0, a)] (Sg xs n D1) := by
    rw [h326_1225, w1, w2, w3, if_pos i1, if_pos i2, if_pos i3]
    by_cases q : xs (i + 3) = 0
    · rw [if_pos q, if_pos q]
    · rw [if_neg q, if_neg q]
  rw [s1, h326_1222, e1, cK0]
  show Rn (d + 200) 326 1225 [some (2, (-1)), some (2, 1), some (2, 129), some (2, 175), some (0, i), none, none] [(0, a)] (Sg xs n D1) = _
  rw [s2, h326_1252, e2, cK0]
  show Rn (d + 200) 326 1255 [some (2, (-1)), some (2, 1), some (2, 129), some (2, 175), some (0, i), none, none] [(0, a), (0, a)] (Sg xs n D2) = _
  rw [h326_1255, if_pos rfl]
theorem sim_175 {v x : Int} : sim (up (up D 175 0 v) 129 0 x) D := fun z j h => by
  unfold scr at h
  by_cases q : z = 129
  · rw [up_ni (by omega), up_ne (by omega)]
  · rw [up_ne q, up_ne (by omega)]
theorem cs4 (R : Rel D) (d : Nat) (w1 : w32 (i + 1) = i + 1) (i1 : inb (i + 1) (xs (-1)) = true) (w2 : w32 (i + 2) = i + 2) (i2 : inb (i + 2) (xs (-1)) = true) : ∃ (n' : Int × Int) (D' : Sto), Rel D' ∧ okCt n n' ∧ Rn (d + 200) 326 368 [some (2, (-1)), some (2, 1), some (2, 129), some (2, 175), some (0, i), none, none] [] (Sg xs n D) = Rn (d + 200) 326 1522 [some (2, (-1)), some (2, 1), some (2, 129), some (2, 175), some (0, i), none, none] [] (Sg xs n' D') := by
  have R0 := R
  obtain ⟨nb, m, K, X⟩ := R
  obtain ⟨q, q', ⟨⟨g1, g2, g3, g4⟩, _⟩, _⟩ := id K
  obtain ⟨c, hc, hc', c8, _⟩ := ck0 X.2.2.2.1 g1.2.1
  have e1 := c141 (xs := xs) (n := n) (d + 197) c (xs (i + 1)) (xs (i + 2)) K X hc c8
  have c184 : ∀ (nn : Int × Int) (G : Sto), den (d + 200) 184 [(2, 129)] (Sg xs nn G) = some ((0, G 129 0), Sg xs nn G) := fun nn G => by rw [n184, h184_0]
  have r254 : ∀ (nn : Int × Int) (v : Int), den (d + 200) 254 [(2, 129), (0, xs (i + 1)), (0, xs (i + 2))] (Sg xs nn (up D 175 0 v)) = if 0 ≤ xs (i + 1) ∧ xs (i + 1) < (nb : Int) then (if 0 ≤ xs (i + 2) ∧ xs (i + 2) ≤ 5 then some ((0, blv (up D 175 0 v) m c (xs (i + 1)) (xs (i + 2))), Sg xs nn (up (up D 175 0 v) 129 0 0)) else some ((0, 0), Sg xs nn (up (up D 175 0 v) 129 0 2))) else some ((0, 0), Sg xs nn (up (up D 175 0 v) 129 0 1)) := fun nn v => by
    refine c254 (xs := xs) (n := nn) (D := up D 175 0 v) (d + 197) c (xs (i + 1)) (xs (i + 2)) ?_ (by rw [up_ne (by decide)]; exact hc') c8
    unfold RG at g2 ⊢
    rw [show up D 175 0 v 131 = D 131 by funext y; rw [up_ne (by decide)], show up D 175 0 v 136 = D 136 by funext y; rw [up_ne (by decide)], show up D 175 0 v 137 = D 137 by funext y; rw [up_ne (by decide)]]
    exact g2
  have fin : ∀ (nn : Int × Int) (k v b x : Int), (k = 0 → v = b) → den (d + 200) 254 [(2, 129), (0, xs (i + 1)), (0, xs (i + 2))] (Sg xs nn (up D 175 0 v)) = some ((0, b), Sg xs nn (up (up D 175 0 v) 129 0 k)) → Rn (d + 200) 326 385 [some (2, (-1)), some (2, 1), some (2, 129), some (2, 175), some (0, i), none, none] [(0, k)] (Sg xs nn (up D 175 0 v)) = Rn (d + 200) 326 1522 [some (2, (-1)), some (2, 1), some (2, 129), some (2, 175), some (0, i), none, none] [] (Sg xs nn (up (up D 175 0 v) 129 0 k)) := by
    intro nn k v b x hv e
    rw [h326_385, w1, w2, if_pos i1, if_pos i2, e, cK0, pR0, h326_403, c184, cK0, pR0, h326_409, up_at, if_pos rfl]
    by_cases q : k = 0
    · rw [if_neg (fun z => z q), if_pos ((lcZ _ _).mpr (by rw [up_ne (by decide), up_at]; exact hv q)), h326_433]
    · rw [if_pos q, h326_433]
  have D175 : up D 175 0 (D 175 0) = D := up_self
  have hbl : ∀ v : Int, blv (up D 175 0 v) m c (xs (i + 1)) (xs (i + 2)) = blv D m c (xs (i + 1)) (xs (i + 2)) := fun v => by
    unfold blv
    rw [show up D 175 0 v 136 = D 136 by funext y; rw [up_ne (by decide)], show up D 175 0 v 137 = D 137 by funext y; rw [up_ne (by decide)], up_ne (show ¬ (154 : Int) = 175 by decide), up_ne (show ¬ (134 : Int) = 175 by decide), up_ne (show ¬ (155 : Int) = 175 by decide)]
  rw [h326_368, w1, w2, if_pos i1, if_pos i2, e1]
  by_cases q1 : 0 ≤ xs (i + 1) ∧ xs (i + 1) < (nb : Int)
  · by_cases q2 : 0 ≤ xs (i + 2) ∧ xs (i + 2) ≤ 5
    · have e := r254 n (blv D m c (xs (i + 1)) (xs (i + 2)))
      rw [if_pos q1, if_pos q2] at e
      refine ⟨n, up (up D 175 0 (blv D m c (xs (i + 1)) (xs (i + 2)))) 129 0 0, Rel_sim sim_175 R0, okCr, ?_⟩
      rw [if_pos q1, if_pos q2]
      show Rn (d + 200) 326 385 [some (2, (-1)), some (2, 1), some (2, 129), some (2, 175), some (0, i), none, none] [(0, 0)] (sU (Sg xs n D) 175 0 (blv D m c (xs (i + 1)) (xs (i + 2)))) = _
      rw [sU_S rfl rfl]
      exact fin n 0 _ _ 0 (fun _ => (hbl _).symm) e
    · have e := r254 (n.1, n.2 + 8) (D 175 0)
      rw [if_pos q1, if_neg q2] at e
      refine ⟨(n.1, n.2 + 8), up (up D 175 0 (D 175 0)) 129 0 2, Rel_sim sim_175 R0, ⟨rfl, by show n.2 ≤ n.2 + 8; omega, by show n.2 + 8 ≤ n.2 + 8; omega⟩, ?_⟩
      rw [if_pos q1, if_neg q2]
      have s := fin (n.1, n.2 + 8) 2 (D 175 0) _ 0 (fun z => absurd z (by decide)) e
      rw [D175] at s ⊢
      exact s
  · have e := r254 (n.1, n.2 + 8) (D 175 0)
    rw [if_neg q1] at e
    refine ⟨(n.1, n.2 + 8), up (up D 175 0 (D 175 0)) 129 0 1, Rel_sim sim_175 R0, ⟨rfl, by show n.2 ≤ n.2 + 8; omega, by show n.2 + 8 ≤ n.2 + 8; omega⟩, ?_⟩
    rw [if_neg q1]
    have s := fin (n.1, n.2 + 8) 1 (D 175 0) _ 0 (fun z => absurd z (by decide)) e
    rw [D175] at s ⊢
    exact s
end S99zj
