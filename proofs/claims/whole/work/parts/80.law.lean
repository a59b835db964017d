/-! Laws: what a sign makes of two values -/
def bndV (v : Int) : Option Int := if -1000000000000 ≤ v ∧ v ≤ 1000000000000 then some v else none
def opV (kv x y : Int) : Option Int := if kv = 43 then bndV (x + y) else if kv = 45 then bndV (x - y) else if kv = 42 then bndV (x * y) else if kv = 47 then (if y = 0 then none else some (x.tdiv y)) else if kv = 60 then some (bB (x < y)) else if kv = 62 then some (bB (y < x)) else if kv = 61 then some (bB (x = y)) else if kv = 256 then some (bB (x ≤ y)) else if kv = 258 then some (bB (y ≤ x)) else if kv = 257 then some (bB (¬ x = y)) else if kv = 261 then some (bB (¬ x = 0 ∧ ¬ y = 0)) else some (bB (¬ x = 0 ∨ ¬ y = 0))
def ovI (o : Option Int) : Int := match o with
  | none => -9223372036854775808
  | some v => v
abbrev inL (x : Int) : Prop := -1000000000000 ≤ x ∧ x ≤ 1000000000000
theorem lcL (a b : Int) : (l_cmp a b < 0) = (a < b) := by
  unfold l_cmp
  apply propext
  (repeat' split) <;> constructor <;> intro h <;> omega
theorem lcG (a b : Int) : (0 < l_cmp a b) = (b < a) := by
  unfold l_cmp
  apply propext
  (repeat' split) <;> constructor <;> intro h <;> omega
theorem lcZ (a b : Int) : (l_cmp a b = 0) = (a = b) := by
  unfold l_cmp
  apply propext
  (repeat' split) <;> constructor <;> intro h <;> omega
def absI (x : Int) : Int := if 0 < x then x else -x
theorem absI_eq {x : Int} (h : -4000000000000 ≤ x ∧ x ≤ 4000000000000) : (if 0 < x then x else w64 (-x)) = absI x := by
  unfold absI
  split
  · rfl
  · exact w64_idP (by omega) (by omega)
theorem absI_0 (x : Int) : 0 ≤ absI x := by
  unfold absI
  split <;> omega
theorem absI_z (x : Int) : absI x = 0 ↔ x = 0 := by
  unfold absI
  split <;> omega
theorem absI_n (x : Int) : absI x = ((x.natAbs : Nat) : Int) := by
  unfold absI
  split <;> omega
theorem absI_m (x y : Int) : absI (x * y) = absI x * absI y := by
  rw [absI_n, absI_n, absI_n, Int.natAbs_mul, Int.natCast_mul]
theorem absI_l (x : Int) : absI x ≤ 1000000000000 ↔ inL x := by
  unfold absI inL
  split <;> omega
theorem bnd_t {x : Int} (h : inL x) : bndV x = some x := by
  unfold bndV
  rw [if_pos h]
theorem bnd_f {x : Int} (h : ¬ inL x) : bndV x = none := by
  unfold bndV
  rw [if_neg h]
/-- a product is small where the one isn't above what is left by the other -/
theorem prod_l {x y : Int} (hx : inL x) (hy : inL y) (h0 : ¬ y = 0) : absI x ≤ l_div 1000000000000 (absI y) ↔ inL (x * y) := by
  have e1 : l_div 1000000000000 (absI y) = 1000000000000 / absI y := by
    have h1 := absI_0 y
    have h2 : ¬ absI y = 0 := fun w => h0 ((absI_z y).mp w)
    unfold l_div
    rw [Int.tdiv_eq_ediv_of_nonneg (by omega)]
    have h3 := Int.ediv_le_self (a := 1000000000000) (absI y) (by omega)
    have h4 := Int.ediv_nonneg (a := 1000000000000) (b := absI y) (by omega) h1
    exact w64_idP (by omega) (by omega)
  have h1 := absI_0 y
  have h2 : ¬ absI y = 0 := fun w => h0 ((absI_z y).mp w)
  rw [e1, Int.le_ediv_iff_mul_le (by omega), ← absI_m, absI_l]
section S80
variable {xs : Int → Int} {n : Int × Int} {D : Sto}
theorem c45 (d : Nat) (k : Int) : den (d + 1) 45 [(0, k)] (Sg xs n D) = some ((1, if k = 0 then 0 else 1), Sg xs n D) := by
  simp only [n45, h45_0, h45_9, if_s]
theorem c222 (d : Nat) (k : Int) : den (d + 1) 222 [(0, k)] (Sg xs n D) = some ((1, if k = 0 then 0 else 1), Sg xs n D) := by
  simp only [n222, h222_0, h222_9, if_s]
theorem c47 (d : Nat) (z : Int) (h : -4000000000000 ≤ z ∧ z ≤ 4000000000000) : den (d + 1) 47 [(1, z)] (Sg xs n D) = some ((1, ovI (bndV z)), Sg xs n D) := by
  simp only [n47, h47_0, h47_18, lcG, absI_eq h]
  by_cases q : inL z
  · rw [if_neg (by have := (absI_l z).mpr q; omega), bnd_t q]
    rfl
  · have t : ¬ absI z ≤ 1000000000000 := fun w => q ((absI_l z).mp w)
    rw [if_pos (by omega), bnd_f q]
    rfl
theorem c48 (d : Nat) (x y : Int) (hx : inL x) (hy : inL y) : den (d + 1) 48 [(1, x), (1, y)] (Sg xs n D) = some ((1, ovI (bndV (x * y))), Sg xs n D) := by
  have ex := absI_eq (x := x) (by unfold inL at hx; omega)
  have ey := absI_eq (x := y) (by unfold inL at hy; omega)
  simp only [n48, h48_0, h48_22, h48_27, h48_43, lcZ, lcG, ex, ey, Int.reduceEq, if_true, if_false]
  by_cases h0 : y = 0
  · have hz : x * y = 0 := by rw [h0, Int.mul_zero]
    rw [if_pos h0, hz, bnd_t (by unfold inL; omega)]
    rfl
  · have h2 : ¬ absI y = 0 := fun w => h0 ((absI_z y).mp w)
    rw [if_neg h0, if_pos (by simp [h2])]
    have t := prod_l hx hy h0
    by_cases q : inL (x * y)
    · have t1 := t.mpr q
      have q' := q
      unfold inL at q'
      rw [if_neg (by omega), bnd_t q, w64_idP (by omega) (by omega)]
      rfl
    · have t1 : ¬ absI x ≤ l_div 1000000000000 (absI y) := fun w => q (t.mp w)
      rw [if_pos (by omega), bnd_f q]
      rfl
theorem c49a (d : Nat) (x y : Int) : den (d + 3) 49 [(2, (-23)), (1, x), (1, y)] (Sg xs n D) = some ((1, bB (x < y)), Sg xs n D) := by
  rw [n49, h49_0, if_pos (show okK (-23) = true from rfl), n325, h325_0, if_pos (show okK (-23) = true from rfl), cK0, pR0, h49_7, show kf 0 (-23) = 21 from rfl, if_pos (show inb 21 38 = true from rfl), show kSw 21 = 12 from rfl]
  simp only [Int.reduceEq, if_true, if_false, lcL, lcG, lcZ, h49_67, h49_70, h49_82, h49_85, h49_97, h49_100, h49_112, h49_115, h49_127, h49_130, h49_142, h49_145, h49_157, h49_160, h49_177, h49_178, h49_181, h49_194, h49_199, h49_202, c45, cK1, pR1, if_s]
  unfold bB
  (repeat' split) <;> first | rfl | (exfalso; omega)
theorem c49b (d : Nat) (x y : Int) : den (d + 3) 49 [(2, (-24)), (1, x), (1, y)] (Sg xs n D) = some ((1, bB (x ≤ y)), Sg xs n D) := by
  rw [n49, h49_0, if_pos (show okK (-24) = true from rfl), n325, h325_0, if_pos (show okK (-24) = true from rfl), cK0, pR0, h49_7, show kf 0 (-24) = 22 from rfl, if_pos (show inb 22 38 = true from rfl), show kSw 22 = 13 from rfl]
  simp only [Int.reduceEq, if_true, if_false, lcL, lcG, lcZ, h49_67, h49_70, h49_82, h49_85, h49_97, h49_100, h49_112, h49_115, h49_127, h49_130, h49_142, h49_145, h49_157, h49_160, h49_177, h49_178, h49_181, h49_194, h49_199, h49_202, c45, cK1, pR1, if_s]
  unfold bB
  (repeat' split) <;> first | rfl | (exfalso; omega)
theorem c49c (d : Nat) (x y : Int) : den (d + 3) 49 [(2, (-25)), (1, x), (1, y)] (Sg xs n D) = some ((1, bB (x = y)), Sg xs n D) := by
  rw [n49, h49_0, if_pos (show okK (-25) = true from rfl), n325, h325_0, if_pos (show okK (-25) = true from rfl), cK0, pR0, h49_7, show kf 0 (-25) = 23 from rfl, if_pos (show inb 23 38 = true from rfl), show kSw 23 = 14 from rfl]
  simp only [Int.reduceEq, if_true, if_false, lcL, lcG, lcZ, h49_67, h49_70, h49_82, h49_85, h49_97, h49_100, h49_112, h49_115, h49_127, h49_130, h49_142, h49_145, h49_157, h49_160, h49_177, h49_178, h49_181, h49_194, h49_199, h49_202, c45, cK1, pR1, if_s]
  unfold bB
  (repeat' split) <;> first | rfl | (exfalso; omega)
theorem c49e (d : Nat) (x y : Int) : den (d + 3) 49 [(2, (-26)), (1, x), (1, y)] (Sg xs n D) = some ((1, bB (¬ x = y)), Sg xs n D) := by
  rw [n49, h49_0, if_pos (show okK (-26) = true from rfl), n325, h325_0, if_pos (show okK (-26) = true from rfl), cK0, pR0, h49_7, show kf 0 (-26) = 24 from rfl, if_pos (show inb 24 38 = true from rfl), show kSw 24 = 15 from rfl]
  simp only [Int.reduceEq, if_true, if_false, lcL, lcG, lcZ, h49_67, h49_70, h49_82, h49_85, h49_97, h49_100, h49_112, h49_115, h49_127, h49_130, h49_142, h49_145, h49_157, h49_160, h49_177, h49_178, h49_181, h49_194, h49_199, h49_202, c45, cK1, pR1, if_s]
  unfold bB
  (repeat' split) <;> first | rfl | (exfalso; omega)
theorem c49f (d : Nat) (x y : Int) : den (d + 3) 49 [(2, (-27)), (1, x), (1, y)] (Sg xs n D) = some ((1, bB (y ≤ x)), Sg xs n D) := by
  rw [n49, h49_0, if_pos (show okK (-27) = true from rfl), n325, h325_0, if_pos (show okK (-27) = true from rfl), cK0, pR0, h49_7, show kf 0 (-27) = 25 from rfl, if_pos (show inb 25 38 = true from rfl), show kSw 25 = 16 from rfl]
  simp only [Int.reduceEq, if_true, if_false, lcL, lcG, lcZ, h49_67, h49_70, h49_82, h49_85, h49_97, h49_100, h49_112, h49_115, h49_127, h49_130, h49_142, h49_145, h49_157, h49_160, h49_177, h49_178, h49_181, h49_194, h49_199, h49_202, c45, cK1, pR1, if_s]
  unfold bB
  (repeat' split) <;> first | rfl | (exfalso; omega)
theorem c49g (d : Nat) (x y : Int) : den (d + 3) 49 [(2, (-28)), (1, x), (1, y)] (Sg xs n D) = some ((1, bB (y < x)), Sg xs n D) := by
  rw [n49, h49_0, if_pos (show okK (-28) = true from rfl), n325, h325_0, if_pos (show okK (-28) = true from rfl), cK0, pR0, h49_7, show kf 0 (-28) = 26 from rfl, if_pos (show inb 26 38 = true from rfl), show kSw 26 = 17 from rfl]
  simp only [Int.reduceEq, if_true, if_false, lcL, lcG, lcZ, h49_67, h49_70, h49_82, h49_85, h49_97, h49_100, h49_112, h49_115, h49_127, h49_130, h49_142, h49_145, h49_157, h49_160, h49_177, h49_178, h49_181, h49_194, h49_199, h49_202, c45, cK1, pR1, if_s]
  unfold bB
  (repeat' split) <;> first | rfl | (exfalso; omega)
theorem c49i (d : Nat) (x y : Int) : den (d + 3) 49 [(2, (-22)), (1, x), (1, y)] (Sg xs n D) = some ((1, bB (y = 0)), Sg xs n D) := by
  rw [n49, h49_0, if_pos (show okK (-22) = true from rfl), n325, h325_0, if_pos (show okK (-22) = true from rfl), cK0, pR0, h49_7, show kf 0 (-22) = 20 from rfl, if_pos (show inb 20 38 = true from rfl), show kSw 20 = 18 from rfl]
  simp only [Int.reduceEq, if_true, if_false, lcL, lcG, lcZ, h49_67, h49_70, h49_82, h49_85, h49_97, h49_100, h49_112, h49_115, h49_127, h49_130, h49_142, h49_145, h49_157, h49_160, h49_177, h49_178, h49_181, h49_194, h49_199, h49_202, c45, cK1, pR1, if_s]
  unfold bB
  (repeat' split) <;> first | rfl | (exfalso; omega)
theorem c49j (d : Nat) (x y : Int) : den (d + 3) 49 [(2, (-21)), (1, x), (1, y)] (Sg xs n D) = some ((1, bB (¬ x = 0 ∧ ¬ y = 0)), Sg xs n D) := by
  rw [n49, h49_0, if_pos (show okK (-21) = true from rfl), n325, h325_0, if_pos (show okK (-21) = true from rfl), cK0, pR0, h49_7, show kf 0 (-21) = 19 from rfl, if_pos (show inb 19 38 = true from rfl), show kSw 19 = 19 from rfl]
  simp only [Int.reduceEq, if_true, if_false, lcL, lcG, lcZ, h49_67, h49_70, h49_82, h49_85, h49_97, h49_100, h49_112, h49_115, h49_127, h49_130, h49_142, h49_145, h49_157, h49_160, h49_177, h49_178, h49_181, h49_194, h49_199, h49_202, c45, cK1, pR1, if_s]
  unfold bB
  (repeat' split) <;> first | rfl | (exfalso; omega)
theorem c49k (d : Nat) (x y : Int) : den (d + 3) 49 [(2, (-20)), (1, x), (1, y)] (Sg xs n D) = some ((1, bB (¬ x = 0 ∨ ¬ y = 0)), Sg xs n D) := by
  rw [n49, h49_0, if_pos (show okK (-20) = true from rfl), n325, h325_0, if_pos (show okK (-20) = true from rfl), cK0, pR0, h49_7, show kf 0 (-20) = 18 from rfl, if_pos (show inb 18 38 = true from rfl), show kSw 18 = 0 from rfl]
  simp only [Int.reduceEq, if_true, if_false, lcL, lcG, lcZ, h49_67, h49_70, h49_82, h49_85, h49_97, h49_100, h49_112, h49_115, h49_127, h49_130, h49_142, h49_145, h49_157, h49_160, h49_177, h49_178, h49_181, h49_194, h49_199, h49_202, c45, cK1, pR1, if_s]
  unfold bB
  (repeat' split) <;> first | rfl | (exfalso; omega)
theorem c46a (d : Nat) (x y : Int) (hx : inL x) (hy : inL y) : den (d + 3) 46 [(2, (-29)), (1, x), (1, y)] (Sg xs n D) = some ((1, ovI (bndV (x + y))), Sg xs n D) := by
  rw [n46, h46_0, if_pos (show okK (-29) = true from rfl), n325, h325_0, if_pos (show okK (-29) = true from rfl), cK0, pR0, h46_7, show kf 0 (-29) = 27 from rfl, if_pos (show inb 27 38 = true from rfl), show kSw 27 = 9 from rfl]
  simp only [Int.reduceEq, if_true, if_false]
  rw [w64_idP (z := x + y) (by unfold inL at hx hy; omega) (by unfold inL at hx hy; omega), c47 (d + 1) (x + y) (by unfold inL at hx hy; omega), cK1, pR1, h46_42]
theorem c46b (d : Nat) (x y : Int) (hx : inL x) (hy : inL y) : den (d + 3) 46 [(2, (-30)), (1, x), (1, y)] (Sg xs n D) = some ((1, ovI (bndV (x - y))), Sg xs n D) := by
  rw [n46, h46_0, if_pos (show okK (-30) = true from rfl), n325, h325_0, if_pos (show okK (-30) = true from rfl), cK0, pR0, h46_7, show kf 0 (-30) = 28 from rfl, if_pos (show inb 28 38 = true from rfl), show kSw 28 = 10 from rfl]
  simp only [Int.reduceEq, if_true, if_false]
  rw [w64_idP (z := x - y) (by unfold inL at hx hy; omega) (by unfold inL at hx hy; omega), c47 (d + 1) (x - y) (by unfold inL at hx hy; omega), cK1, pR1, h46_49]
theorem c46c (d : Nat) (x y : Int) (hx : inL x) (hy : inL y) : den (d + 3) 46 [(2, (-31)), (1, x), (1, y)] (Sg xs n D) = some ((1, ovI (bndV (x * y))), Sg xs n D) := by
  rw [n46, h46_0, if_pos (show okK (-31) = true from rfl), n325, h325_0, if_pos (show okK (-31) = true from rfl), cK0, pR0, h46_7, show kf 0 (-31) = 29 from rfl, if_pos (show inb 29 38 = true from rfl), show kSw 29 = 11 from rfl]
  simp only [Int.reduceEq, if_true, if_false]
  rw [c48 (d + 1) x y hx hy, cK1, pR1, h46_55]
theorem tdiv_l {x y : Int} (hx : inL x) : inL (x.tdiv y) := by
  rw [← absI_l] at hx ⊢
  rw [absI_n] at hx ⊢
  have h3 : (x.tdiv y).natAbs ≤ x.natAbs := by
    rw [Int.natAbs_tdiv]
    exact Nat.div_le_self _ _
  omega
theorem c46e (d : Nat) (x y : Int) (hx : inL x) (hy : inL y) : den (d + 3) 46 [(2, (-32)), (1, x), (1, y)] (Sg xs n D) = some ((1, ovI (if y = 0 then none else some (x.tdiv y))), Sg xs n D) := by
  have t := tdiv_l (y := y) hx
  unfold inL at t
  rw [n46, h46_0, if_pos (show okK (-32) = true from rfl), n325, h325_0, if_pos (show okK (-32) = true from rfl), cK0, pR0, h46_7, show kf 0 (-32) = 30 from rfl, if_pos (show inb 30 38 = true from rfl), show kSw 30 = 0 from rfl]
  simp only [Int.reduceEq, if_true, if_false, lcZ, h46_71]
  by_cases h : y = 0
  · rw [if_neg (fun w => w h), if_pos h]
    rfl
  · rw [if_pos h, if_pos (by simp [h]), if_neg h]
    unfold l_div
    rw [w64_idP (by omega) (by omega)]
    rfl
/-- the end of a sign's work -/
theorem k223 (d h : Nat) (v : Int) (o1 o2 o4 : Option Vv) (hh : 2 ≤ h) (h64 : h ≤ 64) (hD : D 129 29 = ((h - 1 : Nat) : Int)) : Rn d 223 407 [some (2, 129), o1, o2, none, o4, none, some (1, v), none] [] (Sg xs n D) = some ((0, bB (inL v)), Sg xs n (up D 143 ((h - 2 : Nat) : Int) v)) := by
  have hr : ret01 223 0 = true ∧ ret01 223 1 = true := ⟨rfl, rfl⟩
  rw [h223_407, hD, show w32 (((h - 1 : Nat) : Int) - 1) = ((h - 2 : Nat) : Int) by rw [w32_idP (by omega) (by omega)]; omega, if_pos (inb_t (by omega) (by omega))]
  simp only [lcL, lcG, h223_442, h223_443, hr, if_true]
  unfold bB inL
  (repeat' split) <;> first | rfl | (exfalso; omega)
/-- the store behind a sign -/
def wkS (D : Sto) (h : Nat) (v : Int) : Sto := up (up D 129 29 ((h - 1 : Nat) : Int)) 143 ((h - 2 : Nat) : Int) v
theorem c223a (d h : Nat) (x y : Int) (hh : 2 ≤ h) (h64 : h ≤ 64) (hD : D 129 29 = h) (hx : D 143 ((h - 2 : Nat) : Int) = x) (hy : D 143 ((h - 1 : Nat) : Int) = y) : den (d + 3) 223 [(2, 129), (0, 60)] (Sg xs n D) = some ((0, 1), Sg xs n (wkS D h (bB (x < y)))) := by
  have e1 : w32 ((h : Int) - 1) = ((h - 1 : Nat) : Int) := by rw [w32_idP (by omega) (by omega)]; omega
  have e2 : w32 ((h : Int) - 2) = ((h - 2 : Nat) : Int) := by rw [w32_idP (by omega) (by omega)]; omega
  have u : up D 129 29 ((h - 1 : Nat) : Int) 129 29 = ((h - 1 : Nat) : Int) := up_at
  rw [n223, h223_0, hD, e1, e2, if_pos (inb_t (by omega) (by omega)), if_pos (show ¬ (60 : Int) = 260 by decide), if_pos (inb_t (by omega) (by omega)), hx, hy]
  simp only [Int.reduceEq, if_true, if_false, lcL, lcG, lcZ, h223_212, h223_250, h223_253, h223_270, h223_273, h223_290, h223_293, h223_310, h223_313, h223_330, h223_333, h223_350, h223_353, h223_375, h223_376, h223_379, h223_397, h223_402, h223_405, c222, cK1, pR1, k223 (d + 2) h _ _ _ _ hh h64 u]
  have b01 : ∀ v : Int, v = 0 ∨ v = 1 → bB (inL v) = 1 := fun v hv => bB_t (by unfold inL; omega)
  by_cases c1 : x < y
  · rw [bB_t c1]
    (repeat' split) <;> first | (rw [b01 _ (Or.inr rfl)]; rfl) | (exfalso; omega)
  · rw [bB_f c1]
    (repeat' split) <;> first | (rw [b01 _ (Or.inl rfl)]; rfl) | (exfalso; omega)
theorem c223b (d h : Nat) (x y : Int) (hh : 2 ≤ h) (h64 : h ≤ 64) (hD : D 129 29 = h) (hx : D 143 ((h - 2 : Nat) : Int) = x) (hy : D 143 ((h - 1 : Nat) : Int) = y) : den (d + 3) 223 [(2, 129), (0, 256)] (Sg xs n D) = some ((0, 1), Sg xs n (wkS D h (bB (x ≤ y)))) := by
  have e1 : w32 ((h : Int) - 1) = ((h - 1 : Nat) : Int) := by rw [w32_idP (by omega) (by omega)]; omega
  have e2 : w32 ((h : Int) - 2) = ((h - 2 : Nat) : Int) := by rw [w32_idP (by omega) (by omega)]; omega
  have u : up D 129 29 ((h - 1 : Nat) : Int) 129 29 = ((h - 1 : Nat) : Int) := up_at
  rw [n223, h223_0, hD, e1, e2, if_pos (inb_t (by omega) (by omega)), if_pos (show ¬ (256 : Int) = 260 by decide), if_pos (inb_t (by omega) (by omega)), hx, hy]
  simp only [Int.reduceEq, if_true, if_false, lcL, lcG, lcZ, h223_212, h223_250, h223_253, h223_270, h223_273, h223_290, h223_293, h223_310, h223_313, h223_330, h223_333, h223_350, h223_353, h223_375, h223_376, h223_379, h223_397, h223_402, h223_405, c222, cK1, pR1, k223 (d + 2) h _ _ _ _ hh h64 u]
  have b01 : ∀ v : Int, v = 0 ∨ v = 1 → bB (inL v) = 1 := fun v hv => bB_t (by unfold inL; omega)
  by_cases c1 : x ≤ y
  · rw [bB_t c1]
    (repeat' split) <;> first | (rw [b01 _ (Or.inr rfl)]; rfl) | (exfalso; omega)
  · rw [bB_f c1]
    (repeat' split) <;> first | (rw [b01 _ (Or.inl rfl)]; rfl) | (exfalso; omega)
theorem c223c (d h : Nat) (x y : Int) (hh : 2 ≤ h) (h64 : h ≤ 64) (hD : D 129 29 = h) (hx : D 143 ((h - 2 : Nat) : Int) = x) (hy : D 143 ((h - 1 : Nat) : Int) = y) : den (d + 3) 223 [(2, 129), (0, 61)] (Sg xs n D) = some ((0, 1), Sg xs n (wkS D h (bB (x = y)))) := by
  have e1 : w32 ((h : Int) - 1) = ((h - 1 : Nat) : Int) := by rw [w32_idP (by omega) (by omega)]; omega
  have e2 : w32 ((h : Int) - 2) = ((h - 2 : Nat) : Int) := by rw [w32_idP (by omega) (by omega)]; omega
  have u : up D 129 29 ((h - 1 : Nat) : Int) 129 29 = ((h - 1 : Nat) : Int) := up_at
  rw [n223, h223_0, hD, e1, e2, if_pos (inb_t (by omega) (by omega)), if_pos (show ¬ (61 : Int) = 260 by decide), if_pos (inb_t (by omega) (by omega)), hx, hy]
  simp only [Int.reduceEq, if_true, if_false, lcL, lcG, lcZ, h223_212, h223_250, h223_253, h223_270, h223_273, h223_290, h223_293, h223_310, h223_313, h223_330, h223_333, h223_350, h223_353, h223_375, h223_376, h223_379, h223_397, h223_402, h223_405, c222, cK1, pR1, k223 (d + 2) h _ _ _ _ hh h64 u]
  have b01 : ∀ v : Int, v = 0 ∨ v = 1 → bB (inL v) = 1 := fun v hv => bB_t (by unfold inL; omega)
  by_cases c1 : x = y
  · rw [bB_t c1]
    (repeat' split) <;> first | (rw [b01 _ (Or.inr rfl)]; rfl) | (exfalso; omega)
  · rw [bB_f c1]
    (repeat' split) <;> first | (rw [b01 _ (Or.inl rfl)]; rfl) | (exfalso; omega)
theorem c223e (d h : Nat) (x y : Int) (hh : 2 ≤ h) (h64 : h ≤ 64) (hD : D 129 29 = h) (hx : D 143 ((h - 2 : Nat) : Int) = x) (hy : D 143 ((h - 1 : Nat) : Int) = y) : den (d + 3) 223 [(2, 129), (0, 257)] (Sg xs n D) = some ((0, 1), Sg xs n (wkS D h (bB (¬ x = y)))) := by
  have e1 : w32 ((h : Int) - 1) = ((h - 1 : Nat) : Int) := by rw [w32_idP (by omega) (by omega)]; omega
  have e2 : w32 ((h : Int) - 2) = ((h - 2 : Nat) : Int) := by rw [w32_idP (by omega) (by omega)]; omega
  have u : up D 129 29 ((h - 1 : Nat) : Int) 129 29 = ((h - 1 : Nat) : Int) := up_at
  rw [n223, h223_0, hD, e1, e2, if_pos (inb_t (by omega) (by omega)), if_pos (show ¬ (257 : Int) = 260 by decide), if_pos (inb_t (by omega) (by omega)), hx, hy]
  simp only [Int.reduceEq, if_true, if_false, lcL, lcG, lcZ, h223_212, h223_250, h223_253, h223_270, h223_273, h223_290, h223_293, h223_310, h223_313, h223_330, h223_333, h223_350, h223_353, h223_375, h223_376, h223_379, h223_397, h223_402, h223_405, c222, cK1, pR1, k223 (d + 2) h _ _ _ _ hh h64 u]
  have b01 : ∀ v : Int, v = 0 ∨ v = 1 → bB (inL v) = 1 := fun v hv => bB_t (by unfold inL; omega)
  by_cases c1 : ¬ x = y
  · rw [bB_t c1]
    (repeat' split) <;> first | (rw [b01 _ (Or.inr rfl)]; rfl) | (exfalso; omega)
  · rw [bB_f c1]
    (repeat' split) <;> first | (rw [b01 _ (Or.inl rfl)]; rfl) | (exfalso; omega)
theorem c223f (d h : Nat) (x y : Int) (hh : 2 ≤ h) (h64 : h ≤ 64) (hD : D 129 29 = h) (hx : D 143 ((h - 2 : Nat) : Int) = x) (hy : D 143 ((h - 1 : Nat) : Int) = y) : den (d + 3) 223 [(2, 129), (0, 258)] (Sg xs n D) = some ((0, 1), Sg xs n (wkS D h (bB (y ≤ x)))) := by
  have e1 : w32 ((h : Int) - 1) = ((h - 1 : Nat) : Int) := by rw [w32_idP (by omega) (by omega)]; omega
  have e2 : w32 ((h : Int) - 2) = ((h - 2 : Nat) : Int) := by rw [w32_idP (by omega) (by omega)]; omega
  have u : up D 129 29 ((h - 1 : Nat) : Int) 129 29 = ((h - 1 : Nat) : Int) := up_at
  rw [n223, h223_0, hD, e1, e2, if_pos (inb_t (by omega) (by omega)), if_pos (show ¬ (258 : Int) = 260 by decide), if_pos (inb_t (by omega) (by omega)), hx, hy]
  simp only [Int.reduceEq, if_true, if_false, lcL, lcG, lcZ, h223_212, h223_250, h223_253, h223_270, h223_273, h223_290, h223_293, h223_310, h223_313, h223_330, h223_333, h223_350, h223_353, h223_375, h223_376, h223_379, h223_397, h223_402, h223_405, c222, cK1, pR1, k223 (d + 2) h _ _ _ _ hh h64 u]
  have b01 : ∀ v : Int, v = 0 ∨ v = 1 → bB (inL v) = 1 := fun v hv => bB_t (by unfold inL; omega)
  by_cases c1 : y ≤ x
  · rw [bB_t c1]
    (repeat' split) <;> first | (rw [b01 _ (Or.inr rfl)]; rfl) | (exfalso; omega)
  · rw [bB_f c1]
    (repeat' split) <;> first | (rw [b01 _ (Or.inl rfl)]; rfl) | (exfalso; omega)
theorem c223g (d h : Nat) (x y : Int) (hh : 2 ≤ h) (h64 : h ≤ 64) (hD : D 129 29 = h) (hx : D 143 ((h - 2 : Nat) : Int) = x) (hy : D 143 ((h - 1 : Nat) : Int) = y) : den (d + 3) 223 [(2, 129), (0, 62)] (Sg xs n D) = some ((0, 1), Sg xs n (wkS D h (bB (y < x)))) := by
  have e1 : w32 ((h : Int) - 1) = ((h - 1 : Nat) : Int) := by rw [w32_idP (by omega) (by omega)]; omega
  have e2 : w32 ((h : Int) - 2) = ((h - 2 : Nat) : Int) := by rw [w32_idP (by omega) (by omega)]; omega
  have u : up D 129 29 ((h - 1 : Nat) : Int) 129 29 = ((h - 1 : Nat) : Int) := up_at
  rw [n223, h223_0, hD, e1, e2, if_pos (inb_t (by omega) (by omega)), if_pos (show ¬ (62 : Int) = 260 by decide), if_pos (inb_t (by omega) (by omega)), hx, hy]
  simp only [Int.reduceEq, if_true, if_false, lcL, lcG, lcZ, h223_212, h223_250, h223_253, h223_270, h223_273, h223_290, h223_293, h223_310, h223_313, h223_330, h223_333, h223_350, h223_353, h223_375, h223_376, h223_379, h223_397, h223_402, h223_405, c222, cK1, pR1, k223 (d + 2) h _ _ _ _ hh h64 u]
  have b01 : ∀ v : Int, v = 0 ∨ v = 1 → bB (inL v) = 1 := fun v hv => bB_t (by unfold inL; omega)
  by_cases c1 : y < x
  · rw [bB_t c1]
    (repeat' split) <;> first | (rw [b01 _ (Or.inr rfl)]; rfl) | (exfalso; omega)
  · rw [bB_f c1]
    (repeat' split) <;> first | (rw [b01 _ (Or.inl rfl)]; rfl) | (exfalso; omega)
theorem c223j (d h : Nat) (x y : Int) (hh : 2 ≤ h) (h64 : h ≤ 64) (hD : D 129 29 = h) (hx : D 143 ((h - 2 : Nat) : Int) = x) (hy : D 143 ((h - 1 : Nat) : Int) = y) : den (d + 3) 223 [(2, 129), (0, 261)] (Sg xs n D) = some ((0, 1), Sg xs n (wkS D h (bB (¬ x = 0 ∧ ¬ y = 0)))) := by
  have e1 : w32 ((h : Int) - 1) = ((h - 1 : Nat) : Int) := by rw [w32_idP (by omega) (by omega)]; omega
  have e2 : w32 ((h : Int) - 2) = ((h - 2 : Nat) : Int) := by rw [w32_idP (by omega) (by omega)]; omega
  have u : up D 129 29 ((h - 1 : Nat) : Int) 129 29 = ((h - 1 : Nat) : Int) := up_at
  rw [n223, h223_0, hD, e1, e2, if_pos (inb_t (by omega) (by omega)), if_pos (show ¬ (261 : Int) = 260 by decide), if_pos (inb_t (by omega) (by omega)), hx, hy]
  simp only [Int.reduceEq, if_true, if_false, lcL, lcG, lcZ, h223_212, h223_250, h223_253, h223_270, h223_273, h223_290, h223_293, h223_310, h223_313, h223_330, h223_333, h223_350, h223_353, h223_375, h223_376, h223_379, h223_397, h223_402, h223_405, c222, cK1, pR1, k223 (d + 2) h _ _ _ _ hh h64 u]
  have b01 : ∀ v : Int, v = 0 ∨ v = 1 → bB (inL v) = 1 := fun v hv => bB_t (by unfold inL; omega)
  by_cases c1 : ¬ x = 0 ∧ ¬ y = 0
  · rw [bB_t c1]
    (repeat' split) <;> first | (rw [b01 _ (Or.inr rfl)]; rfl) | (exfalso; omega)
  · rw [bB_f c1]
    (repeat' split) <;> first | (rw [b01 _ (Or.inl rfl)]; rfl) | (exfalso; omega)
theorem c223k (d h : Nat) (x y : Int) (hh : 2 ≤ h) (h64 : h ≤ 64) (hD : D 129 29 = h) (hx : D 143 ((h - 2 : Nat) : Int) = x) (hy : D 143 ((h - 1 : Nat) : Int) = y) : den (d + 3) 223 [(2, 129), (0, 262)] (Sg xs n D) = some ((0, 1), Sg xs n (wkS D h (bB (¬ x = 0 ∨ ¬ y = 0)))) := by
  have e1 : w32 ((h : Int) - 1) = ((h - 1 : Nat) : Int) := by rw [w32_idP (by omega) (by omega)]; omega
  have e2 : w32 ((h : Int) - 2) = ((h - 2 : Nat) : Int) := by rw [w32_idP (by omega) (by omega)]; omega
  have u : up D 129 29 ((h - 1 : Nat) : Int) 129 29 = ((h - 1 : Nat) : Int) := up_at
  rw [n223, h223_0, hD, e1, e2, if_pos (inb_t (by omega) (by omega)), if_pos (show ¬ (262 : Int) = 260 by decide), if_pos (inb_t (by omega) (by omega)), hx, hy]
  simp only [Int.reduceEq, if_true, if_false, lcL, lcG, lcZ, h223_212, h223_250, h223_253, h223_270, h223_273, h223_290, h223_293, h223_310, h223_313, h223_330, h223_333, h223_350, h223_353, h223_375, h223_376, h223_379, h223_397, h223_402, h223_405, c222, cK1, pR1, k223 (d + 2) h _ _ _ _ hh h64 u]
  have b01 : ∀ v : Int, v = 0 ∨ v = 1 → bB (inL v) = 1 := fun v hv => bB_t (by unfold inL; omega)
  by_cases c1 : ¬ x = 0 ∨ ¬ y = 0
  · rw [bB_t c1]
    (repeat' split) <;> first | (rw [b01 _ (Or.inr rfl)]; rfl) | (exfalso; omega)
  · rw [bB_f c1]
    (repeat' split) <;> first | (rw [b01 _ (Or.inl rfl)]; rfl) | (exfalso; omega)
theorem c223l (d h : Nat) (x y : Int) (hh : 2 ≤ h) (h64 : h ≤ 64) (hD : D 129 29 = h) (hx : D 143 ((h - 2 : Nat) : Int) = x) (hy : D 143 ((h - 1 : Nat) : Int) = y) (lx : inL x) (ly : inL y) : den (d + 3) 223 [(2, 129), (0, 43)] (Sg xs n D) = some ((0, bB (inL (x + y))), Sg xs n (wkS D h (x + y))) := by
  have e1 : w32 ((h : Int) - 1) = ((h - 1 : Nat) : Int) := by rw [w32_idP (by omega) (by omega)]; omega
  have e2 : w32 ((h : Int) - 2) = ((h - 2 : Nat) : Int) := by rw [w32_idP (by omega) (by omega)]; omega
  have u : up D 129 29 ((h - 1 : Nat) : Int) 129 29 = ((h - 1 : Nat) : Int) := up_at
  rw [n223, h223_0, hD, e1, e2, if_pos (inb_t (by omega) (by omega)), if_pos (show ¬ (43 : Int) = 260 by decide), if_pos (inb_t (by omega) (by omega)), hx, hy]
  simp only [Int.reduceEq, if_true, if_false, k223 (d + 2) h _ _ _ _ hh h64 u]
  rw [w64_idP (z := x + y) (by unfold inL at lx ly; omega) (by unfold inL at lx ly; omega)]
  rfl
theorem c223m (d h : Nat) (x y : Int) (hh : 2 ≤ h) (h64 : h ≤ 64) (hD : D 129 29 = h) (hx : D 143 ((h - 2 : Nat) : Int) = x) (hy : D 143 ((h - 1 : Nat) : Int) = y) (lx : inL x) (ly : inL y) : den (d + 3) 223 [(2, 129), (0, 45)] (Sg xs n D) = some ((0, bB (inL (x - y))), Sg xs n (wkS D h (x - y))) := by
  have e1 : w32 ((h : Int) - 1) = ((h - 1 : Nat) : Int) := by rw [w32_idP (by omega) (by omega)]; omega
  have e2 : w32 ((h : Int) - 2) = ((h - 2 : Nat) : Int) := by rw [w32_idP (by omega) (by omega)]; omega
  have u : up D 129 29 ((h - 1 : Nat) : Int) 129 29 = ((h - 1 : Nat) : Int) := up_at
  rw [n223, h223_0, hD, e1, e2, if_pos (inb_t (by omega) (by omega)), if_pos (show ¬ (45 : Int) = 260 by decide), if_pos (inb_t (by omega) (by omega)), hx, hy]
  simp only [Int.reduceEq, if_true, if_false, k223 (d + 2) h _ _ _ _ hh h64 u]
  rw [w64_idP (z := x - y) (by unfold inL at lx ly; omega) (by unfold inL at lx ly; omega)]
  rfl
theorem c223n (d h : Nat) (x y : Int) (hh : 2 ≤ h) (h64 : h ≤ 64) (hD : D 129 29 = h) (hx : D 143 ((h - 2 : Nat) : Int) = x) (hy : D 143 ((h - 1 : Nat) : Int) = y) (lx : inL x) (ly : inL y) : ∃ v, (inL (x * y) → v = x * y) ∧ den (d + 3) 223 [(2, 129), (0, 42)] (Sg xs n D) = some ((0, bB (inL (x * y))), Sg xs n (if inL (x * y) then wkS D h v else up D 129 29 ((h - 1 : Nat) : Int))) := by
  have ex := absI_eq (x := x) (by unfold inL at lx; omega)
  have ey := absI_eq (x := y) (by unfold inL at ly; omega)
  refine ⟨x * y, fun _ => rfl, ?_⟩
  have e1 : w32 ((h : Int) - 1) = ((h - 1 : Nat) : Int) := by rw [w32_idP (by omega) (by omega)]; omega
  have e2 : w32 ((h : Int) - 2) = ((h - 2 : Nat) : Int) := by rw [w32_idP (by omega) (by omega)]; omega
  have u : up D 129 29 ((h - 1 : Nat) : Int) 129 29 = ((h - 1 : Nat) : Int) := up_at
  rw [n223, h223_0, hD, e1, e2, if_pos (inb_t (by omega) (by omega)), if_pos (show ¬ (42 : Int) = 260 by decide), if_pos (inb_t (by omega) (by omega)), hx, hy]
  simp only [Int.reduceEq, if_true, lcZ, lcG, ex, ey, h223_212, k223 (d + 2) h _ _ _ _ hh h64 u]
  by_cases h0 : x = 0
  · have hz : x * y = 0 := by rw [h0, Int.zero_mul]
    rw [if_pos h0, Int.mul_comm x y]
    rw [Int.mul_comm] at hz
    have l0 : inL (y * x) := by rw [hz]; unfold inL; omega
    rw [if_pos l0, hz]
    rfl
  · have h2 : ¬ absI x = 0 := fun w => h0 ((absI_z x).mp w)
    rw [if_neg h0, if_pos (by simp [h2])]
    have t := prod_l ly lx h0
    rw [Int.mul_comm y x] at t
    by_cases q : inL (x * y)
    · have t1 := t.mpr q
      have q' := q
      unfold inL at q'
      rw [if_pos (by omega), if_pos q, w64_idP (by omega) (by omega)]
      rfl
    · have t1 : ¬ absI y ≤ l_div 1000000000000 (absI x) := fun w => q (t.mp w)
      rw [if_neg (by omega), if_neg q, bB_f q]
theorem c223o (d h : Nat) (x y : Int) (hh : 2 ≤ h) (h64 : h ≤ 64) (hD : D 129 29 = h) (hx : D 143 ((h - 2 : Nat) : Int) = x) (hy : D 143 ((h - 1 : Nat) : Int) = y) (lx : inL x) (ly : inL y) : den (d + 3) 223 [(2, 129), (0, 47)] (Sg xs n D) = if y = 0 then some ((0, 0), Sg xs n (up D 129 29 ((h - 1 : Nat) : Int))) else some ((0, 1), Sg xs n (wkS D h (x.tdiv y))) := by
  have t := tdiv_l (y := y) lx
  have t' := t
  unfold inL at t'
  have e1 : w32 ((h : Int) - 1) = ((h - 1 : Nat) : Int) := by rw [w32_idP (by omega) (by omega)]; omega
  have e2 : w32 ((h : Int) - 2) = ((h - 2 : Nat) : Int) := by rw [w32_idP (by omega) (by omega)]; omega
  have u : up D 129 29 ((h - 1 : Nat) : Int) 129 29 = ((h - 1 : Nat) : Int) := up_at
  rw [n223, h223_0, hD, e1, e2, if_pos (inb_t (by omega) (by omega)), if_pos (show ¬ (47 : Int) = 260 by decide), if_pos (inb_t (by omega) (by omega)), hx, hy]
  simp only [Int.reduceEq, if_true, if_false, lcZ, k223 (d + 2) h _ _ _ _ hh h64 u]
  by_cases c : y = 0
  · rw [if_neg (fun w => w c), if_pos c]
  · rw [if_pos c, if_pos (by simp [c]), if_neg c]
    unfold l_div
    rw [w64_idP (by omega) (by omega), bB_t t]
    rfl
theorem c223i (d h : Nat) (y : Int) (hh : 1 ≤ h) (h64 : h ≤ 64) (hD : D 129 29 = h) (hy : D 143 ((h - 1 : Nat) : Int) = y) : den (d + 3) 223 [(2, 129), (0, 260)] (Sg xs n D) = some ((0, 1), Sg xs n (up D 143 ((h - 1 : Nat) : Int) (bB (y = 0)))) := by
  have e1 : w32 ((h : Int) - 1) = ((h - 1 : Nat) : Int) := by rw [w32_idP (by omega) (by omega)]; omega
  rw [n223, h223_0, hD, e1, if_pos (inb_t (by omega) (by omega)), if_neg (show ¬ ¬ (260 : Int) = 260 by decide), hy]
  simp only [lcZ, h223_40, c222, cK1, pR1, h223_43, inb_t (show (0 : Int) ≤ ((h - 1 : Nat) : Int) by omega) (show ((h - 1 : Nat) : Int) < 64 by omega), if_true, Int.reduceEq, if_false]
  unfold bB
  (repeat' split) <;> first | rfl | (exfalso; omega)
end S80
