/-! Runs: copies -/
theorem cpz_ne {E : Sto} {a i b j n z k : Int} (h : ¬ z = b) : cpy E a i b j n z k = E z k := by
  unfold cpy
  rw [if_neg (fun q => h q.1)]
theorem cpz_at {E : Sto} {a b k : Int} (h0 : 0 ≤ k) (h1 : k < 8) : cpy E a 0 b 0 8 b k = E a k := by
  unfold cpy
  rw [if_pos ⟨rfl, h0, by omega⟩]
  congr 1
  omega
section S89b
variable {xs : Int → Int} {n : Int × Int} {D G : Sto}
/-- a run of the class is copied from q to r -/
def cpR (D : Sto) (r q : Int) : Sto := up (up (up (up (up (up (up (up (up (up (cpy (cpy D (q + 1) 0 (r + 1) 0 8) (q + 2) 0 (r + 2) 0 8) r 2 (D q 2)) r 3 (D q 3)) r 4 (D q 4)) r 5 (D q 5)) r 6 (D q 6)) r 7 (D q 7)) r 8 (D q 8)) r 9 (D q 9)) r 10 (D q 10)) r 11 (D q 11)
theorem cpR_ne {r q z : Int} (h0 : ¬ z = r) (h1 : ¬ z = r + 1) (h2 : ¬ z = r + 2) : cpR D r q z = D z := by
  funext j
  unfold cpR
  rw [up_ne h0, up_ne h0, up_ne h0, up_ne h0, up_ne h0, up_ne h0, up_ne h0, up_ne h0, up_ne h0, up_ne h0, cpz_ne h2, cpz_ne h1]
theorem cpR_0 {r q : Int} : ∀ j : Int, 2 ≤ j → j ≤ 11 → cpR D r q r j = D q j := by
  intro j h1 h2
  have : j = 2 ∨ j = 3 ∨ j = 4 ∨ j = 5 ∨ j = 6 ∨ j = 7 ∨ j = 8 ∨ j = 9 ∨ j = 10 ∨ j = 11 := by omega
  unfold cpR up
  obtain h | h | h | h | h | h | h | h | h | h := this <;> (rw [h]; simp)
theorem cpR_1 {r q : Int} : ∀ b : Nat, b < 8 → cpR D r q (r + 1) b = D (q + 1) b := by
  intro b hb
  unfold cpR
  rw [up_ne (by omega), up_ne (by omega), up_ne (by omega), up_ne (by omega), up_ne (by omega), up_ne (by omega), up_ne (by omega), up_ne (by omega), up_ne (by omega), up_ne (by omega), cpz_ne (by omega), cpz_at (by omega) (by omega)]
theorem cpR_2 {r q : Int} (h : ¬ q + 2 = r + 1) : ∀ b : Nat, b < 8 → cpR D r q (r + 2) b = D (q + 2) b := by
  intro b hb
  unfold cpR
  rw [up_ne (by omega), up_ne (by omega), up_ne (by omega), up_ne (by omega), up_ne (by omega), up_ne (by omega), up_ne (by omega), up_ne (by omega), up_ne (by omega), up_ne (by omega), cpz_at (by omega) (by omega), cpz_ne h]
theorem c94c (d : Nat) : den (d + 1) 94 [(2, 49), (2, 46)] (Sg xs n D) = some ((9, 0), Sg xs n (cpR D 49 46)) := by
  have e1 : ∀ (E : Sto) (i v j : Int), up E 49 i v 46 j = E 46 j := fun E i v j => up_ne (by decide)
  have e2 : ∀ (E : Sto) (a k : Int), cpy E a 0 50 0 8 46 k = E 46 k := fun E a k => cpz_ne (by decide)
  have e3 : ∀ (E : Sto) (a k : Int), cpy E a 0 51 0 8 46 k = E 46 k := fun E a k => cpz_ne (by decide)
  rw [n94c, h94c_0]
  simp only [e1, e2, e3]
  rfl
theorem c94a (d : Nat) : den (d + 1) 94 [(2, 46), (2, 66)] (Sg xs n D) = some ((9, 0), Sg xs n (cpR D 46 66)) := by
  have e1 : ∀ (E : Sto) (i v j : Int), up E 46 i v 66 j = E 66 j := fun E i v j => up_ne (by decide)
  have e2 : ∀ (E : Sto) (a k : Int), cpy E a 0 47 0 8 66 k = E 66 k := fun E a k => cpz_ne (by decide)
  have e3 : ∀ (E : Sto) (a k : Int), cpy E a 0 48 0 8 66 k = E 66 k := fun E a k => cpz_ne (by decide)
  rw [n94a, h94a_0]
  simp only [e1, e2, e3]
  rfl
theorem c94d (d : Nat) : den (d + 1) 94 [(2, 66), (2, 46)] (Sg xs n D) = some ((9, 0), Sg xs n (cpR D 66 46)) := by
  have e1 : ∀ (E : Sto) (i v j : Int), up E 66 i v 46 j = E 46 j := fun E i v j => up_ne (by decide)
  have e2 : ∀ (E : Sto) (a k : Int), cpy E a 0 67 0 8 46 k = E 46 k := fun E a k => cpz_ne (by decide)
  have e3 : ∀ (E : Sto) (a k : Int), cpy E a 0 68 0 8 46 k = E 46 k := fun E a k => cpz_ne (by decide)
  rw [n94d, h94d_0]
  simp only [e1, e2, e3]
  rfl
/-- a run of the reference is copied from v to u -/
def cpQ (D : Sto) (u v : Int) : Sto := fun z j => if 144 ≤ z ∧ z ≤ 153 ∧ j = u then D z v else if (z = 154 ∨ z = 155) ∧ 8 * u ≤ j ∧ j < 8 * u + 8 then D z (8 * v + (j - 8 * u)) else D z j
def cpW (D : Sto) (u v : Int) (k : Int) : Sto := fun z j => if (z = 154 ∨ z = 155) ∧ 8 * u ≤ j ∧ j < 8 * u + k then D z (8 * v + (j - 8 * u)) else D z j
theorem c229 (d : Nat) (u v : Int) (hu : 0 ≤ u ∧ u < 23) (hv : 0 ≤ v ∧ v < 23) (huv : ¬ u = v) : den (d + 1) 229 [(2, 129), (0, u), (0, v)] (Sg xs n D) = some ((9, 0), Sg xs n (cpQ D u v)) := by
  have tu := inb_t hu.1 hu.2
  have tv := inb_t hv.1 hv.2
  have w8 : ∀ (a : Int) (k : Nat), 0 ≤ a → a < 23 → k < 8 → w32 (w32 (8 * a) + (k : Int)) = 8 * a + k := fun a k h1 h2 h3 => by rw [w32_idP (z := 8 * a) (by omega) (by omega), w32_idP (by omega) (by omega)]
  rw [n229, h229_0]
  simp only [tu, tv, if_true]
  generalize hE : (up (up (up (up (up (up (up (up (up (up D 144 u (D 144 v)) 145 u _) 146 u _) 147 u _) 148 u _) 149 u _) 150 u _) 151 u _) 152 u _) 153 u _) = E
  have E0 : ∀ z j : Int, E z j = if 144 ≤ z ∧ z ≤ 153 ∧ j = u then D z v else D z j := by
    intro z j
    rw [← hE]
    have hvu : ¬ v = u := fun q => huv q.symm
    unfold up
    by_cases a : 144 ≤ z ∧ z ≤ 153 ∧ j = u
    · rw [if_pos a]
      have : z = 144 ∨ z = 145 ∨ z = 146 ∨ z = 147 ∨ z = 148 ∨ z = 149 ∨ z = 150 ∨ z = 151 ∨ z = 152 ∨ z = 153 := by omega
      obtain h | h | h | h | h | h | h | h | h | h := this <;> (rw [h, a.2.2]; simp)
    · rw [if_neg a, if_neg (by omega), if_neg (by omega), if_neg (by omega), if_neg (by omega), if_neg (by omega), if_neg (by omega), if_neg (by omega), if_neg (by omega), if_neg (by omega), if_neg (by omega)]
  have ez : E = cpW E u v ((0 : Nat) : Int) := by
    funext z j
    unfold cpW
    rw [if_neg (by omega)]
  rw [show Sg xs n E = Sg xs n (cpW E u v ((0 : Nat) : Int)) from by rw [← ez]]
  refine (Rn_iter (fun k => [some (2, 129), some (0, u), some (0, v), some (0, (k : Int))]) (fun k => Sg xs n (cpW E u v k)) 8 (fun k hk => ?_)).trans ?_
  · have b1 : inb (8 * u + (k : Int)) 184 = true := inb_t (by omega) (by omega)
    have b2 : inb (8 * v + (k : Int)) 184 = true := inb_t (by omega) (by omega)
    rw [h229_122, if_neg (by omega), w8 u k hu.1 hu.2 hk, w8 v k hv.1 hv.2 hk, if_pos b2, if_pos b1, if_pos b2, if_pos b1, w1 (by omega)]
    have e : up (up (cpW E u v k) 154 (8 * u + k) (cpW E u v k 154 (8 * v + k))) 155 (8 * u + k) (cpW E u v k 155 (8 * v + k)) = cpW E u v ((k + 1 : Nat) : Int) := by
      have r : ∀ z : Int, cpW E u v k z (8 * v + k) = E z (8 * v + k) := fun z => by
        unfold cpW
        rw [if_neg (by omega)]
      rw [r, r]
      funext z j
      unfold up cpW
      by_cases a : z = 155 ∧ j = 8 * u + k
      · rw [if_pos a, if_pos (by omega), a.1, a.2]
        congr 1
        omega
      · rw [if_neg a]
        by_cases c : z = 154 ∧ j = 8 * u + k
        · rw [if_pos c, if_pos (by omega), c.1, c.2]
          congr 1
          omega
        · rw [if_neg c]
          by_cases q : (z = 154 ∨ z = 155) ∧ 8 * u ≤ j ∧ j < 8 * u + k
          · rw [if_pos q, if_pos (by omega)]
          · rw [if_neg q, if_neg (by omega)]
    rw [e]
  · rw [show (((8 : Nat) : Int)) = 8 from rfl, h229_122, if_pos (by decide)]
    have e : cpW E u v 8 = cpQ D u v := by
      funext z j
      unfold cpW cpQ
      rw [E0, E0]
      by_cases a : 144 ≤ z ∧ z ≤ 153 ∧ j = u
      · rw [if_pos a, if_neg (by omega), if_pos a]
      · rw [if_neg a, if_neg a]
        by_cases q : (z = 154 ∨ z = 155) ∧ 8 * u ≤ j ∧ j < 8 * u + 8
        · rw [if_pos q, if_pos q, if_neg (by omega)]
        · rw [if_neg q, if_neg q]
    rw [e]
end S89b
