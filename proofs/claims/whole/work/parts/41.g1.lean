/-! Contracts: the graph's small ones -/
theorem rz179 : ret01 179 0 = true ∧ ret01 179 1 = true := ⟨rfl, rfl⟩
theorem rz6 : ret01 6 0 = true ∧ ret01 6 1 = true := ⟨rfl, rfl⟩
theorem rz7 : ret01 7 0 = true ∧ ret01 7 1 = true := ⟨rfl, rfl⟩
theorem rz8 : ret01 8 0 = true ∧ ret01 8 1 = true := ⟨rfl, rfl⟩
theorem rz9 : ret01 9 0 = true ∧ ret01 9 1 = true := ⟨rfl, rfl⟩
theorem rz181 : ret01 181 0 = true ∧ ret01 181 1 = true := ⟨rfl, rfl⟩
section G1
variable {xs : Int → Int} {n : Int × Int} {D : Sto}
theorem c179 (d : Nat) (v lo hi : Int) : den (d + 1) 179 [(0, v), (0, lo), (0, hi)] (Sg xs n D) = some ((0, bB (lo ≤ v ∧ v ≤ hi)), Sg xs n D) := by
  simp only [n179, h179_0, h179_14, h179_15, rz179, bB]
  split
  · rw [if_neg (by omega)]; rfl
  · split
    · rw [if_neg (by omega)]; rfl
    · rw [if_pos (by omega)]; rfl
theorem c180 (d b : Nat) (hb : b < 31) : den (d + 1) 180 [(0, (b : Int))] (Sg xs n D) = some ((0, ((2 ^ b : Nat) : Int)), Sg xs n D) := by
  simp only [n180, h180_0, i_shl_bit hb]
theorem c181 (d x b : Nat) (hx : x < 2147483648) (hb : b < 32) : den (d + 1) 181 [(0, (x : Int)), (0, (b : Int))] (Sg xs n D) = some ((0, bB (x.testBit b = true)), Sg xs n D) := by
  simp only [n181, h181_0, h181_13, rz181, bB, tb_bit hx hb]
  cases x.testBit b <;> rfl
theorem c6a (d : Nat) (b : Int) : den (d + 1) 6 [(2, 30), (0, b)] (Sg xs n D) = some ((0, bB (0 ≤ b ∧ b < D 30 0)), Sg xs n D) := by
  simp only [n6a, h6a_0, h6a_16, h6a_17, rz6, bB]
  split
  · rw [if_neg (by omega)]; rfl
  · split
    · rw [if_neg (by omega)]; rfl
    · rw [if_pos (by omega)]; rfl
theorem c6b (d : Nat) (b : Int) : den (d + 1) 6 [(2, 9), (0, b)] (Sg xs n D) = some ((0, bB (0 ≤ b ∧ b < D 9 0)), Sg xs n D) := by
  simp only [n6b, h6b_0, h6b_16, h6b_17, rz6, bB]
  split
  · rw [if_neg (by omega)]; rfl
  · split
    · rw [if_neg (by omega)]; rfl
    · rw [if_pos (by omega)]; rfl
theorem c7 (d : Nat) (e : Int) : den (d + 1) 7 [(2, 30), (0, e)] (Sg xs n D) = some ((0, bB (0 ≤ e ∧ e < D 30 1)), Sg xs n D) := by
  simp only [n7, h7_0, h7_16, h7_17, rz7, bB]
  split
  · rw [if_neg (by omega)]; rfl
  · split
    · rw [if_neg (by omega)]; rfl
    · rw [if_pos (by omega)]; rfl
theorem c8 (d : Nat) (e b : Int) (hm : D 30 1 ≤ 16) : den (d + 2) 8 [(2, 30), (0, e), (0, b)] (Sg xs n D) = some ((0, bB ((0 ≤ e ∧ e < D 30 1) ∧ (0 ≤ b ∧ b < D 30 0) ∧ ¬ D 32 e = b)), Sg xs n D) := by
  simp only [n8, h8_0, c7, cK0, pR0, h8_5, h8_30, h8_31, c6a, h8_13, rz8]
  by_cases h1 : 0 ≤ e ∧ e < D 30 1
  · by_cases h2 : 0 ≤ b ∧ b < D 30 0
    · by_cases h3 : D 32 e = b
      · simp [bB, h1, h2, h3, inb_t h1.1 (by omega : e < 16)]
      · simp [bB, h1, h2, h3, inb_t h1.1 (by omega : e < 16)]
    · simp [bB, h1, h2]
  · simp [bB, h1]
theorem c9 (d : Nat) (b : Int) (hn : D 30 0 ≤ 8) : den (d + 1) 9 [(2, 30), (0, b)] (Sg xs n D) = some ((0, bB (0 ≤ b ∧ b < D 30 0 ∧ 1 < D 34 b)), Sg xs n D) := by
  simp only [n9, h9_0, h9_26, h9_27, rz9]
  by_cases h1 : b < 0
  · simp [bB, h1]; omega
  · by_cases h2 : b < D 30 0
    · simp [bB, h1, h2, inb_t (by omega : 0 ≤ b) (by omega : b < 8)]
      by_cases h3 : 1 < D 34 b
      · simp [h3]; omega
      · simp [h3]
    · simp [bB, h1, h2]
theorem c13_step (d : Nat) : True := trivial
end G1
