/-! Twins: strikes, both calls -/
section T6
variable {xs : Int → Int} {n : Int × Int} {D F : Sto} {nb m : Nat}
theorem wq {q : Nat} (h : q < 24) : w32 (((q + 1 : Nat) : Int) - 1) = (q : Int) := by
  have e : ((q + 1 : Nat) : Int) - 1 = (q : Int) := by omega
  rw [e]
  exact w32_idP (by omega) (by omega)
theorem c53 (d q : Nat) (c : Int) (k1 : D 58 0 = q) : den (d + 1) 53 [(2, 58), (0, c)] (Sg xs n D) = if 0 ≤ c ∧ c < (q : Int) ∧ q < 24 then some ((0, (q : Int)), Sg xs n (skS D q c ((q + 1 : Nat) : Int))) else some ((0, -1), Sg xs n D) := by
  rw [n53, h53_0, k1]
  by_cases c1 : (q : Int) < 24
  · rw [if_neg (fun w => w c1)]
    by_cases c2 : c < 0
    · rw [if_pos c2, h53_21, if_neg (by omega)]
    · rw [if_neg c2]
      by_cases c3 : c < (q : Int)
      · rw [if_pos c3, if_pos (inb_t (by omega) c1), if_pos (by omega), w1 (show q < 2147483647 by omega), wq (by omega)]
        rfl
      · rw [if_neg c3, h53_21, if_neg (by omega)]
  · rw [if_pos c1, h53_21, if_neg (by omega)]
theorem c304 (d q : Nat) (c : Int) (hq : q ≤ 24) (k2 : D 129 64 = q) : den (d + 1) 304 [(2, 129), (0, c)] (Sg xs n D) = if 0 ≤ c ∧ c < (q : Int) ∧ q < 24 then some ((0, (q : Int)), Sg xs n (skR D q c ((q + 1 : Nat) : Int))) else some ((0, -1), Sg xs n (up D 129 0 0)) := by
  rw [n304, h304_0, k2]
  by_cases c2 : c < 0
  · rw [if_pos c2, h304_26, if_neg (by omega)]
  · rw [if_neg c2]
    by_cases c3 : c < (q : Int)
    · rw [if_neg (fun w => w c3)]
      by_cases c1 : (q : Int) = 24
      · rw [if_neg (fun w => w c1), h304_26, if_neg (by omega)]
      · rw [if_pos c1, if_pos (inb_t (by omega) (by omega)), if_pos (by omega), w1 (show q < 2147483647 by omega), wq (by omega)]
        rfl
    · rw [if_pos c3, h304_26, if_neg (by omega)]
theorem tw_strike (R : RelK D nb m) (d : Nat) (c : Int) : ∃ D2, (RelK D2 nb m ∧ simN D2 D) ∧ twin xs n (d + 40) 168 304 [(0, c)] D D2 := by
  have RK := R
  obtain ⟨q, q', ⟨_, _, _, _, ⟨_, _, _, _, n5, n6⟩, _⟩, K, _⟩ := R
  have e1 := c53 (xs := xs) (n := n) (d + 38) q c K.1
  have e2 : ∀ r E, den (d + 39) 53 [(2, 58), (0, c)] (Sg xs n D) = some ((0, r), Sg xs n E) → den (d + 40) 168 [(2, 1), (0, c)] (Sg xs n D) = some ((0, r), Sg xs n E) := by
    intro r E h
    rw [n168, h168_0, h, cK0, pR0, h168_8]
  by_cases h : 0 ≤ c ∧ c < (q : Int) ∧ q < 24
  · rw [if_pos h] at e1
    have e3 := c304 (xs := xs) (n := n) (D := skS D q c ((q + 1 : Nat) : Int)) (d + 39) q c n5.1 (by rw [skS_ne (by decide) (by decide)]; exact K.2.1)
    rw [if_pos h] at e3
    exact ⟨_, ⟨sk_rel RK K n5 n6 h.1 h.2.1 h.2.2, sk_N⟩, _, _, e2 _ _ e1, e3⟩
  · rw [if_neg h] at e1
    have e3 := c304 (xs := xs) (n := n) (D := D) (d + 39) q c n5.1 K.2.1
    rw [if_neg h] at e3
    exact ⟨_, ⟨RelK_sim RK sim_0, simN_of sim_0⟩, _, _, e2 _ _ e1, e3⟩
end T6
