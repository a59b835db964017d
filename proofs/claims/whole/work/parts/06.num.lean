/-! Numbers: the machine's ints and longs as whole numbers -/
theorem w32_bmod (z : Int) : w32 z = z.bmod (2 ^ 32) := by
  unfold w32
  rw [Int.bmod_def]
  split <;> omega
theorem w64_bmod (z : Int) : w64 z = z.bmod (2 ^ 64) := by
  unfold w64
  rw [Int.bmod_def]
  split <;> omega
theorem w32_in (z : Int) : in32 (w32 z) := by unfold w32 in32; omega
theorem w64_in (z : Int) : in64 (w64 z) := by unfold w64 in64; omega
theorem w32_id {z : Int} (h : in32 z) : w32 z = z := by unfold w32; unfold in32 at h; omega
theorem w64_id {z : Int} (h : in64 z) : w64 z = z := by unfold w64; unfold in64 at h; omega
theorem o32_w (z : Int) : Int32.ofInt (w32 z) = Int32.ofInt z := by
  apply Int32.toInt_inj.mp
  rw [w32_bmod, Int32.toInt_ofInt, Int32.toInt_ofInt]
  exact Int.bmod_bmod
theorem o64_w (z : Int) : Int64.ofInt (w64 z) = Int64.ofInt z := by
  apply Int64.toInt_inj.mp
  rw [w64_bmod, Int64.toInt_ofInt, Int64.toInt_ofInt]
  exact Int.bmod_bmod
theorem t32 {z : Int} (h : in32 z) : (Int32.ofInt z).toInt = z := Int32.toInt_ofInt_of_le (by have := h.1; omega) (by have := h.2; omega)
theorem t64 {z : Int} (h : in64 z) : (Int64.ofInt z).toInt = z := Int64.toInt_ofInt_of_le (by have := h.1; omega) (by have := h.2; omega)
theorem toInt_in32 (x : Int32) : in32 x.toInt := ⟨by have := x.le_toInt; omega, by have := x.toInt_lt; omega⟩
theorem toInt_in64 (x : Int64) : in64 x.toInt := ⟨by have := x.le_toInt; omega, by have := x.toInt_lt; omega⟩
theorem o32_lt {x y : Int} (hx : in32 x) (hy : in32 y) : Int32.ofInt x < Int32.ofInt y ↔ x < y := by rw [Int32.lt_iff_toInt_lt, t32 hx, t32 hy]
theorem o32_le {x y : Int} (hx : in32 x) (hy : in32 y) : Int32.ofInt x ≤ Int32.ofInt y ↔ x ≤ y := by rw [Int32.le_iff_toInt_le, t32 hx, t32 hy]
theorem o32_eq {x y : Int} (hx : in32 x) (hy : in32 y) : Int32.ofInt x = Int32.ofInt y ↔ x = y := by rw [← Int32.toInt_inj, t32 hx, t32 hy]
theorem o64_lt {x y : Int} (hx : in64 x) (hy : in64 y) : Int64.ofInt x < Int64.ofInt y ↔ x < y := by rw [Int64.lt_iff_toInt_lt, t64 hx, t64 hy]
theorem o64_le {x y : Int} (hx : in64 x) (hy : in64 y) : Int64.ofInt x ≤ Int64.ofInt y ↔ x ≤ y := by rw [Int64.le_iff_toInt_le, t64 hx, t64 hy]
theorem o64_eq {x y : Int} (hx : in64 x) (hy : in64 y) : Int64.ofInt x = Int64.ofInt y ↔ x = y := by rw [← Int64.toInt_inj, t64 hx, t64 hy]
theorem in0_32 : in32 0 := by unfold in32; omega
theorem in0_64 : in64 0 := by unfold in64; omega
theorem o32_0 : Int32.ofInt 0 = 0 := rfl
theorem o64_0 : Int64.ofInt 0 = 0 := rfl
theorem o32_lt0 {x : Int} (hx : in32 x) : Int32.ofInt x < 0 ↔ x < 0 := o32_lt hx in0_32
theorem o32_gt0 {x : Int} (hx : in32 x) : 0 < Int32.ofInt x ↔ 0 < x := o32_lt in0_32 hx
theorem o32_eq0 {x : Int} (hx : in32 x) : Int32.ofInt x = 0 ↔ x = 0 := o32_eq hx in0_32
theorem o64_eq0 {x : Int} (hx : in64 x) : Int64.ofInt x = 0 ↔ x = 0 := o64_eq hx in0_64
theorem o32_cl {x : Int} (hx : in32 x) : (Int32.ofInt x).toNatClampNeg = x.toNat := by
  show (Int32.ofInt x).toInt.toNat = _
  rw [t32 hx]
theorem o32_vin {i n : Int} (hi : in32 i) (h : inb i n = true) : vp_in (Int32.ofInt i) n.toNat := by
  simp only [inb, Bool.and_eq_true, decide_eq_true_eq] at h
  refine vp_in_iff.mpr ?_
  rw [t32 hi]
  omega
theorem o32_div {x y : Int} (hx : in32 x) (hy : in32 y) : Int32.ofInt x / Int32.ofInt y = Int32.ofInt (i_div x y) := by
  apply Int32.toInt_inj.mp
  rw [Int32.toInt_div, t32 hx, t32 hy]
  unfold i_div
  rw [t32 (w32_in _), w32_bmod]
theorem o64_div {x y : Int} (hx : in64 x) (hy : in64 y) : Int64.ofInt x / Int64.ofInt y = Int64.ofInt (l_div x y) := by
  apply Int64.toInt_inj.mp
  rw [Int64.toInt_div, t64 hx, t64 hy]
  unfold l_div
  rw [t64 (w64_in _), w64_bmod]
theorem tmod_in32 {x y : Int} (hx : in32 x) (hy : in32 y) (h0 : y ≠ 0) : in32 (x.tmod y) := by
  unfold in32 at *
  have h1 := Int.tmod_lt_of_pos x (b := y.natAbs) (by omega)
  have h2 := Int.lt_tmod_of_pos x (b := y.natAbs) (by omega)
  have e : x.tmod (y.natAbs : Int) = x.tmod y := by
    rcases Int.natAbs_eq y with h | h
    · rw [← h]
    · conv => rhs; rw [h, Int.tmod_neg]
  rw [e] at h1 h2
  omega
theorem tmod_in64 {x y : Int} (hx : in64 x) (hy : in64 y) (h0 : y ≠ 0) : in64 (x.tmod y) := by
  unfold in64 at *
  have h1 := Int.tmod_lt_of_pos x (b := y.natAbs) (by omega)
  have h2 := Int.lt_tmod_of_pos x (b := y.natAbs) (by omega)
  have e : x.tmod (y.natAbs : Int) = x.tmod y := by
    rcases Int.natAbs_eq y with h | h
    · rw [← h]
    · conv => rhs; rw [h, Int.tmod_neg]
  rw [e] at h1 h2
  omega
theorem o32_rem {x y : Int} (hx : in32 x) (hy : in32 y) (h0 : y ≠ 0) : Int32.ofInt x - Int32.ofInt x / Int32.ofInt y * Int32.ofInt y = Int32.ofInt (i_rem x y) := by
  rw [o32_div hx hy]
  unfold i_div i_rem
  rw [o32_w, ← Int32.ofInt_mul, ← Int32.ofInt_sub]
  congr 1
  have := Int.tmod_add_mul_tdiv x y
  rw [Int.mul_comm] at this
  omega
theorem o64_rem {x y : Int} (hx : in64 x) (hy : in64 y) (h0 : y ≠ 0) : Int64.ofInt x - Int64.ofInt x / Int64.ofInt y * Int64.ofInt y = Int64.ofInt (l_rem x y) := by
  rw [o64_div hx hy]
  unfold l_div l_rem
  rw [o64_w, ← Int64.ofInt_mul, ← Int64.ofInt_sub]
  congr 1
  have := Int.tmod_add_mul_tdiv x y
  rw [Int.mul_comm] at this
  omega
theorem o64_cmp {x y : Int} (hx : in64 x) (hy : in64 y) : lg_cmp (Int64.ofInt x) (Int64.ofInt y) = Int32.ofInt (l_cmp x y) := by
  unfold lg_cmp l_cmp
  show (if Int64.ofInt y < Int64.ofInt x then (1 : Int32) else _) = _
  simp only [o64_lt hy hx, o64_eq hx hy]
  by_cases h1 : x < y
  · rw [if_neg (by omega), if_neg (by omega), if_pos h1]; rfl
  · by_cases h2 : x = y
    · rw [if_neg (by omega), if_pos h2, if_neg h1, if_pos h2]; rfl
    · rw [if_pos (by omega), if_neg h1, if_neg h2]; rfl
theorem l_cmp_in (x y : Int) : in32 (l_cmp x y) := by
  unfold l_cmp in32
  split
  · omega
  · split <;> omega
theorem o_i2l {x : Int} (hx : in32 x) : (Int32.ofInt x).toInt64 = Int64.ofInt x := by
  apply Int64.toInt_inj.mp
  rw [Int32.toInt_toInt64, t32 hx, t64]
  unfold in32 at hx
  unfold in64
  omega
theorem o_l2i (x : Int) : (Int64.ofInt x).toInt32 = Int32.ofInt (w32 x) := by
  rw [Int64.toInt32_ofInt, o32_w]
theorem in32_64 {x : Int} (h : in32 x) : in64 x := by unfold in32 at h; unfold in64; omega
