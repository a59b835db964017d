/-! Bits of small numbers; sets of blocks -/
theorem bv_n {x : Nat} (h : x < 2147483648) : (BitVec.ofInt 32 (x : Int)).toNat = x := by
  rw [BitVec.toNat_ofInt]
  omega
theorem i_and_nat {x y : Nat} (hx : x < 2147483648) (hy : y < 2147483648) : i_and (x : Int) (y : Int) = ((x &&& y : Nat) : Int) := by
  show (BitVec.ofInt 32 (x : Int) &&& BitVec.ofInt 32 (y : Int)).toInt = _
  have e : (BitVec.ofInt 32 (x : Int) &&& BitVec.ofInt 32 (y : Int)).toNat = x &&& y := by
    rw [BitVec.toNat_and, bv_n hx, bv_n hy]
  have hlt : x &&& y < 2147483648 := Nat.lt_of_le_of_lt Nat.and_le_left hx
  rw [BitVec.toInt_eq_toNat_of_lt (by rw [e]; omega), e]
theorem i_or_nat {x y : Nat} (hx : x < 2147483648) (hy : y < 2147483648) : i_or (x : Int) (y : Int) = ((x ||| y : Nat) : Int) := by
  show (BitVec.ofInt 32 (x : Int) ||| BitVec.ofInt 32 (y : Int)).toInt = _
  have e : (BitVec.ofInt 32 (x : Int) ||| BitVec.ofInt 32 (y : Int)).toNat = x ||| y := by
    rw [BitVec.toNat_or, bv_n hx, bv_n hy]
  have hlt : x ||| y < 2 ^ 31 := Nat.or_lt_two_pow hx hy
  rw [BitVec.toInt_eq_toNat_of_lt (by rw [e]; omega), e]
theorem i_xor_nat {x y : Nat} (hx : x < 2147483648) (hy : y < 2147483648) : i_xor (x : Int) (y : Int) = ((x ^^^ y : Nat) : Int) := by
  show (BitVec.ofInt 32 (x : Int) ^^^ BitVec.ofInt 32 (y : Int)).toInt = _
  have e : (BitVec.ofInt 32 (x : Int) ^^^ BitVec.ofInt 32 (y : Int)).toNat = x ^^^ y := by
    rw [BitVec.toNat_xor, bv_n hx, bv_n hy]
  have hlt : x ^^^ y < 2 ^ 31 := Nat.xor_lt_two_pow hx hy
  rw [BitVec.toInt_eq_toNat_of_lt (by rw [e]; omega), e]
theorem sh_n {b : Nat} (hb : b < 32) : (Int32.ofInt (b : Int) &&& 31).toBitVec.smod 32 = BitVec.ofNat 32 b := by
  have : ∀ b : Fin 32, (Int32.ofInt ((b : Nat) : Int) &&& 31).toBitVec.smod 32 = BitVec.ofNat 32 (b : Nat) := by decide
  exact this ⟨b, hb⟩
theorem i_shr_nat {x b : Nat} (hx : x < 2147483648) (hb : b < 32) : i_shr (x : Int) (b : Int) = ((x >>> b : Nat) : Int) := by
  show (Int32.ofInt (x : Int) >>> (Int32.ofInt (b : Int) &&& 31)).toInt = _
  show ((Int32.ofInt (x : Int)).toBitVec.sshiftRight' ((Int32.ofInt (b : Int) &&& 31).toBitVec.smod 32)).toInt = _
  rw [sh_n hb]
  show ((BitVec.ofInt 32 (x : Int)).sshiftRight (BitVec.ofNat 32 b).toNat).toInt = _
  have hm : (BitVec.ofInt 32 (x : Int)).msb = false := by
    rw [BitVec.msb_eq_decide, bv_n hx]
    simp
    omega
  rw [BitVec.sshiftRight_eq_of_msb_false hm]
  have e : ((BitVec.ofInt 32 (x : Int)) >>> (BitVec.ofNat 32 b).toNat).toNat = x >>> b := by
    rw [BitVec.toNat_ushiftRight, bv_n hx]
    congr 1
    rw [BitVec.toNat_ofNat]
    omega
  have hlt : x >>> b ≤ x := Nat.shiftRight_le x b
  rw [BitVec.toInt_eq_toNat_of_lt (by rw [e]; omega), e]
theorem i_shl_bit {b : Nat} (hb : b < 31) : i_shl 1 (b : Int) = ((2 ^ b : Nat) : Int) := by
  have : ∀ b : Fin 31, i_shl 1 ((b : Nat) : Int) = ((2 ^ (b : Nat) : Nat) : Int) := by decide
  exact this ⟨b, hb⟩
/-- what is in x and not in y -/
theorem i_andn_nat {x y : Nat} (hx : x < 2147483648) (hy : y < 2147483648) : i_and (x : Int) (i_xor (y : Int) (-1)) = ((x ^^^ (x &&& y) : Nat) : Int) := by
  show (BitVec.ofInt 32 (x : Int) &&& BitVec.ofInt 32 (BitVec.ofInt 32 (y : Int) ^^^ BitVec.ofInt 32 (-1)).toInt).toInt = _
  rw [BitVec.ofInt_toInt]
  have e0 : BitVec.ofInt 32 (-1) = BitVec.allOnes 32 := by decide
  have e : (BitVec.ofInt 32 (x : Int) &&& (BitVec.ofInt 32 (y : Int) ^^^ BitVec.ofInt 32 (-1))).toNat = x ^^^ (x &&& y) := by
    have e1 : BitVec.ofInt 32 (x : Int) &&& (BitVec.ofInt 32 (y : Int) ^^^ BitVec.ofInt 32 (-1)) = BitVec.ofInt 32 (x : Int) ^^^ (BitVec.ofInt 32 (x : Int) &&& BitVec.ofInt 32 (y : Int)) := by
      rw [e0]
      ext i hi
      rw [BitVec.getElem_and, BitVec.getElem_xor, BitVec.getElem_xor, BitVec.getElem_and, BitVec.getElem_allOnes]
      cases (BitVec.ofInt 32 (x : Int))[i] <;> cases (BitVec.ofInt 32 (y : Int))[i] <;> rfl
    rw [e1, BitVec.toNat_xor, BitVec.toNat_and, bv_n hx, bv_n hy]
  have hlt : x ^^^ (x &&& y) < 2 ^ 31 := Nat.xor_lt_two_pow hx (Nat.lt_of_le_of_lt Nat.and_le_left hx)
  rw [BitVec.toInt_eq_toNat_of_lt (by rw [e]; omega), e]
theorem w32_idP {z : Int} (h1 : -2147483648 ≤ z) (h2 : z < 2147483648) : w32 z = z := by
  unfold w32
  omega
theorem w64_idP {z : Int} (h1 : -9223372036854775808 ≤ z) (h2 : z < 9223372036854775808) : w64 z = z := by
  unfold w64
  omega
def bB (p : Prop) [Decidable p] : Int := if p then 1 else 0
theorem tb_bit {x b : Nat} (hx : x < 2147483648) (hb : b < 32) : i_and (i_shr (x : Int) (b : Int)) 1 = 0 ↔ x.testBit b = false := by
  have h1 : x >>> b < 2147483648 := Nat.lt_of_le_of_lt (Nat.shiftRight_le x b) hx
  rw [i_shr_nat hx hb, show (1 : Int) = ((1 : Nat) : Int) from rfl, i_and_nat h1 (by decide)]
  have e : x.testBit b = false ↔ x >>> b &&& 1 = 0 := by
    rw [Nat.testBit, Nat.and_comm]
    simp
  rw [e]
  omega
theorem inb_t {i k : Int} (h1 : 0 ≤ i) (h2 : i < k) : inb i k = true := by
  rw [inb_eq]; exact decide_eq_true ⟨h1, h2⟩
