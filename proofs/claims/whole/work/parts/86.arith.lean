/-! Numbers: what is left, drawn numbers -/
theorem l_and_m (z : Int) : l_and z 2147483647 = z % 2147483648 := by
  show (BitVec.ofInt 64 z &&& BitVec.ofInt 64 2147483647).toInt = _
  have e : (BitVec.ofInt 64 z &&& BitVec.ofInt 64 2147483647).toNat = (z % 2147483648).toNat := by
    rw [BitVec.toNat_and, show (BitVec.ofInt 64 2147483647).toNat = 2 ^ 31 - 1 from rfl, Nat.and_two_pow_sub_one_eq_mod, BitVec.toNat_ofInt]
    omega
  rw [BitVec.toInt_eq_toNat_of_lt (by rw [e]; omega), e]
  omega
theorem i_and_m (z : Int) : i_and z 2147483647 = z % 2147483648 := by
  show (BitVec.ofInt 32 z &&& BitVec.ofInt 32 2147483647).toInt = _
  have e : (BitVec.ofInt 32 z &&& BitVec.ofInt 32 2147483647).toNat = (z % 2147483648).toNat := by
    rw [BitVec.toNat_and, show (BitVec.ofInt 32 2147483647).toNat = 2 ^ 31 - 1 from rfl, Nat.and_two_pow_sub_one_eq_mod, BitVec.toNat_ofInt]
    omega
  rw [BitVec.toInt_eq_toNat_of_lt (by rw [e]; omega), e]
  omega
theorem draw_c {x : Int} (h0 : 0 ≤ x) (h1 : x < 2147483648) : l_and (w64 (w64 (x * 1103515245) + 12345)) 2147483647 = nnP x := by
  rw [l_and_m, w64_idP (z := x * 1103515245) (by omega) (by omega), w64_idP (by omega) (by omega)]
  rfl
theorem draw_r {x : Int} : i_and (w32 (w32 (x * 1103515245) + 12345)) 2147483647 = nnP x := by
  rw [i_and_m]
  unfold nnP w32
  omega
theorem draw_v {x : Int} : w32 (l_div (nnP x) 65536) = nnP x / 65536 := by
  have := nnP_l x
  unfold l_div
  rw [Int.tdiv_eq_ediv_of_nonneg this.1, w64_idP (by omega) (by omega), w32_idP (by omega) (by omega)]
theorem draw_s {x : Int} : i_shr (nnP x) 16 = nnP x / 65536 := by
  have := nnP_l x
  have e := i_shr_nat (x := (nnP x).toNat) (b := 16) (by omega) (by decide)
  rw [Int.toNat_of_nonneg this.1] at e
  have e' : i_shr (nnP x) 16 = (((nnP x).toNat >>> 16 : Nat) : Int) := e
  rw [e', Nat.shiftRight_eq_div_pow]
  omega
theorem lx_neg {x y : Int} (hx : in64 x) (h0 : 0 < y) (h1 : y < 1000) : (l_xor x y < 0) = (x < 0) := by
  unfold in64 at hx
  have e : l_xor x y = (BitVec.ofInt 64 x ^^^ BitVec.ofInt 64 y).toInt := rfl
  have m1 : (BitVec.ofInt 64 x).msb = decide (x < 0) := by
    rw [BitVec.msb_eq_toInt, BitVec.toInt_ofInt, Int.bmod_eq_of_le (by omega) (by omega)]
  have m2' : (BitVec.ofInt 64 y).msb = false := by
    rw [BitVec.msb_eq_toInt, BitVec.toInt_ofInt, Int.bmod_eq_of_le (by omega) (by omega)]
    simp
    omega
  have m3 := BitVec.msb_eq_toInt (x := BitVec.ofInt 64 x ^^^ BitVec.ofInt 64 y)
  rw [BitVec.msb_xor, m1, m2', Bool.xor_false, ← e, decide_eq_decide] at m3
  exact propext m3.symm
section S86
variable {xs : Int → Int} {n : Int × Int} {D : Sto}
theorem c319 (d : Nat) (x y : Int) (hx : inL x) (h0 : 0 < y) (h1 : y < 1000) : den (d + 1) 319 [(1, x), (1, y)] (Sg xs n D) = some ((1, x % y), Sg xs n D) := by
  have hx' : in64 x := by
    unfold inL at hx
    unfold in64
    omega
  have e := lx_neg hx' h0 h1
  have hm := Int.emod_nonneg x (b := y) (by omega)
  have hm2 := Int.emod_lt_of_pos x h0
  simp only [n319, h319_0, h319_25, lcL, lcZ, e]
  rw [if_pos (by simp; omega)]
  unfold l_rem
  by_cases c : x < 0
  · rw [if_neg (fun q => q c)]
    have t : x.tmod y = -((-x) % y) := by
      have : x = -(-x) := by omega
      conv => lhs; rw [this]
      rw [Int.neg_tmod, Int.tmod_eq_emod_of_nonneg (by omega)]
    have t2 : x % y = if (-x) % y = 0 then 0 else y - (-x) % y := by
      have t3 := Int.emod_nonneg (-x) (b := y) (by omega)
      have t4 := Int.emod_lt_of_pos (-x) h0
      have t5 : (-x) = y * ((-x) / y) + (-x) % y := (Int.mul_ediv_add_emod (-x) y).symm
      by_cases q : (-x) % y = 0
      · rw [if_pos q]
        have t6 : x = 0 + y * (-((-x) / y)) := by rw [Int.mul_neg]; omega
        rw [t6, Int.add_mul_emod_self_left]
        rfl
      · rw [if_neg q]
        have t6 : x = (y - (-x) % y) + y * (-((-x) / y) - 1) := by rw [Int.mul_sub, Int.mul_neg, Int.mul_one]; omega
        conv => lhs; rw [t6]
        rw [Int.add_mul_emod_self_left, Int.emod_eq_of_lt (by omega) (by omega)]
    have t3 := Int.emod_nonneg (-x) (b := y) (by omega)
    have t4 := Int.emod_lt_of_pos (-x) h0
    rw [t, t2]
    by_cases q : (-x) % y = 0
    · rw [if_pos (by omega), if_pos q, q]
      rfl
    · rw [if_neg (by omega), if_neg q, w64_idP (by omega) (by omega)]
      congr 3
      omega
  · rw [if_pos c, Int.tmod_eq_emod_of_nonneg (by omega)]
theorem c320 (d : Nat) (x y : Int) (hx : inL x) (h0 : 0 < y) (h1 : y < 1000) : den (d + 2) 320 [(1, x), (0, y)] (Sg xs n D) = some ((0, x % y), Sg xs n D) := by
  have hm := Int.emod_nonneg x (b := y) (by omega)
  have hm2 := Int.emod_lt_of_pos x h0
  rw [n320, h320_0, c319 d x y hx h0 h1, cK1, pR1, h320_6, w32_idP (by omega) (by omega)]
theorem c244 (d : Nat) (x y : Int) (hx : inL x) (h0 : 0 < y) (h1 : y < 1000) : den (d + 1) 244 [(1, x), (0, y)] (Sg xs n D) = some ((0, x % y), Sg xs n D) := by
  have hm := Int.emod_nonneg x (b := y) (by omega)
  have hm2 := Int.emod_lt_of_pos x h0
  have hz : (!decide (y = 0)) = true := by simp; omega
  rw [n244, h244_0, if_pos hz, if_pos hz]
  unfold l_rem
  have b1 := Int.tmod_lt_of_pos x h0
  have b2 : -y < x.tmod y := by
    have := Int.lt_tmod_of_pos x h0
    omega
  rw [w64_idP (by omega) (by omega), Int.tmod_eq_emod_of_nonneg (by omega)]
  have t : (x.tmod y + y) % y = x % y := by
    rw [Int.add_emod_right]
    have t1 : x = y * x.tdiv y + x.tmod y := (Int.mul_tdiv_add_tmod x y).symm
    conv => rhs; rw [t1]
    rw [Int.mul_add_emod_self_left]
  rw [t, w32_idP (by omega) (by omega)]
theorem c322 (d : Nat) (a b : Int) : den (d + 1) 322 [(1, a), (1, b)] (Sg xs n D) = some ((1, max a b), Sg xs n D) := by
  simp only [n322, h322_0, h322_11, lcL]
  split
  · rw [Int.max_eq_right (by omega)]
  · rw [Int.max_eq_left (by omega)]
theorem c324 (d : Nat) (a b : Int) : den (d + 1) 324 [(1, a), (1, b)] (Sg xs n D) = some ((1, min a b), Sg xs n D) := by
  simp only [n324, h324_0, h324_11, lcG]
  split
  · rw [Int.min_eq_right (by omega)]
  · rw [Int.min_eq_left (by omega)]
end S86
