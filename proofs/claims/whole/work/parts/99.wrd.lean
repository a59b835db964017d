/-! Text: words, their codes -/
theorem i_shl_nat {x b : Nat} (hb : b < 31) (h : x * 2 ^ b < 2147483648) : i_shl (x : Int) (b : Int) = ((x * 2 ^ b : Nat) : Int) := by
  have hx : x < 2147483648 := by
    have : x * 1 ≤ x * 2 ^ b := Nat.mul_le_mul_left x (Nat.one_le_two_pow)
    omega
  show (BitVec.ofInt 32 (x : Int) <<< ((Int32.ofInt (b : Int) &&& 31).toBitVec.smod 32)).toInt = _
  rw [sh_n (by omega)]
  have e : (BitVec.ofInt 32 (x : Int) <<< BitVec.ofNat 32 b).toNat = x * 2 ^ b := by
    rw [BitVec.shiftLeft_eq', BitVec.toNat_shiftLeft, bv_n hx, BitVec.toNat_ofNat, Nat.mod_eq_of_lt (show b < 2 ^ 32 by omega), Nat.shiftLeft_eq, Nat.mod_eq_of_lt (by omega)]
  rw [BitVec.toInt_eq_toNat_of_lt (by rw [e]; omega), e]
/-- a word's number, letter by letter: six places of five bits -/
def vwN (f : Int → Int) (st : Int) (len : Nat) : Nat → Nat
  | 0 => 0
  | p + 1 => vwN f st len p * 32 + (if p < len then (f (st + p) - 96).toNat else 0)
theorem vwN_b {f : Int → Int} {st : Int} {len : Nat} (h : ∀ p : Nat, p < len → isL (f (st + p)) = true) : ∀ p : Nat, vwN f st len p < 32 ^ p := by
  intro p
  induction p with
  | zero => exact Nat.one_pos
  | succ p ih =>
    rw [show vwN f st len (p + 1) = vwN f st len p * 32 + (if p < len then (f (st + p) - 96).toNat else 0) from rfl, Nat.pow_succ]
    by_cases q : p < len
    · have := isL_b (h p q)
      rw [if_pos q]
      omega
    · rw [if_neg q]
      omega
theorem or_add {a s b : Nat} (h : b < 2 ^ s) : (a * 2 ^ s) ||| b = a * 2 ^ s + b := by
  have := Nat.shiftLeft_add_eq_or_of_lt h a
  rw [Nat.shiftLeft_eq] at this
  exact this.symm
section S99
variable {xs : Int → Int} {n : Int × Int} {D : Sto}
theorem c33 (d : Nat) (f : Int → Int) (st : Int) (len p : Nat) (hp : p < 6) (hl : p < len) (h : ∀ p : Nat, p < len → isL (f (st + p)) = true) : den (d + 1) 33 [(0, ((vwN f st len p * 32 ^ (6 - p) : Nat) : Int)), (0, (p : Int)), (0, f (st + p))] (Sg xs n D) = some ((0, ((vwN f st len (p + 1) * 32 ^ (6 - (p + 1)) : Nat) : Int)), Sg xs n D) := by
  have hb := isL_b (h p hl)
  have hv := vwN_b h p
  have e1 : w32 (w32 (f (st + p) - 97) + 1) = (((f (st + p) - 96).toNat : Nat) : Int) := by
    rw [w32_idP (z := f (st + p) - 97) (by omega) (by omega), w32_idP (by omega) (by omega)]
    omega
  have e2 : w32 (5 * w32 (5 - (p : Int))) = ((5 * (5 - p) : Nat) : Int) := by
    rw [w32_idP (z := 5 - (p : Int)) (by omega) (by omega), w32_idP (by omega) (by omega)]
    omega
  generalize hc : (f (st + p) - 96).toNat = c at e1
  have hc32 : c < 32 := by omega
  have key : ∀ p : Nat, p < 6 → (32 : Nat) ^ (6 - p) = 32 * 2 ^ (5 * (5 - p)) ∧ (32 : Nat) ^ p * (32 * 2 ^ (5 * (5 - p))) = 1073741824 ∧ (32 : Nat) ^ (6 - (p + 1)) = 2 ^ (5 * (5 - p)) ∧ 32 * 2 ^ (5 * (5 - p)) = 2 ^ (5 * (5 - p) + 5) := by
    intro p hp
    have : p = 0 ∨ p = 1 ∨ p = 2 ∨ p = 3 ∨ p = 4 ∨ p = 5 := by omega
    obtain q | q | q | q | q | q := this <;> (subst q; decide)
  obtain ⟨k1, k2, k3, k4⟩ := key p hp
  have hm : vwN f st len p * (32 * 2 ^ (5 * (5 - p))) < 1073741824 := by
    rw [← k2]
    exact Nat.mul_lt_mul_of_pos_right hv (Nat.mul_pos (by decide) (Nat.two_pow_pos _))
  have hs : c * 2 ^ (5 * (5 - p)) < 32 * 2 ^ (5 * (5 - p)) := Nat.mul_lt_mul_of_pos_right hc32 (Nat.two_pow_pos _)
  have h32 : 32 * 2 ^ (5 * (5 - p)) ≤ 1073741824 := by
    rw [← k2]
    exact Nat.le_mul_of_pos_left _ (Nat.pow_pos (by decide))
  rw [n33, h33_0, e1, e2, i_shl_nat (by omega) (by omega), i_or_nat (by rw [k1]; omega) (by omega), k1, k3]
  have e3 : vwN f st len p * (32 * 2 ^ (5 * (5 - p))) ||| c * 2 ^ (5 * (5 - p)) = vwN f st len (p + 1) * 2 ^ (5 * (5 - p)) := by
    rw [k4, or_add (by rw [← k4]; exact hs), ← k4, show vwN f st len (p + 1) = vwN f st len p * 32 + (if p < len then (f (st + p) - 96).toNat else 0) from rfl, if_pos hl, hc, Nat.add_mul, Nat.mul_assoc]
  rw [e3]
end S99
