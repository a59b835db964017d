/-! Contracts: the notebook -/
def anF (p : Nat → Bool) (i : Nat) : Nat → Bool
  | 0 => true
  | r + 1 => p i && anF p (i + 1) r
/-- bits of those below k that keep p -/
def bitP (p : Nat → Bool) : Nat → Nat
  | 0 => 0
  | k + 1 => if p k then bitP p k ||| 2 ^ k else bitP p k
theorem bitP_lt (p : Nat → Bool) : ∀ k, bitP p k < 2 ^ k := by
  intro k
  induction k with
  | zero => exact Nat.zero_lt_one
  | succ k ih =>
    unfold bitP
    have h : 2 ^ k < 2 ^ (k + 1) := Nat.pow_lt_pow_right (by decide) (by omega)
    split
    · exact Nat.or_lt_two_pow (by omega) h
    · omega
theorem anF_iff (p : Nat → Bool) : ∀ r i, anF p i r = true ↔ ∀ k, i ≤ k → k < i + r → p k = true := by
  intro r
  induction r with
  | zero => intro i; constructor
            · intro _ k h1 h2; omega
            · intro _; rfl
  | succ r ih =>
    intro i
    unfold anF
    rw [Bool.and_eq_true, ih]
    constructor
    · intro h k h1 h2
      by_cases e : k = i
      · rw [e]; exact h.1
      · exact h.2 k (by omega) (by omega)
    · intro h
      exact ⟨h i (by omega) (by omega), fun k h1 h2 => h k (by omega) (by omega)⟩
theorem up_ne {D : Sto} {a i v c j : Int} (h : ¬ c = a) : up D a i v c j = D c j := by
  unfold up
  simp [h]
theorem up_at {D : Sto} {a i v : Int} : up D a i v a i = v := by
  unfold up
  simp
theorem up_ni {D : Sto} {a i v c j : Int} (h : ¬ j = i) : up D a i v c j = D c j := by
  unfold up
  simp [h]
theorem up_up {D : Sto} {a i v w : Int} : up (up D a i v) a i w = up D a i w := by
  funext c j
  unfold up
  (repeat' split) <;> rfl
theorem up_id {D : Sto} {a i : Int} : up D a i (D a i) = D := by
  funext c j
  unfold up
  by_cases h : c = a ∧ j = i
  · obtain ⟨h1, h2⟩ := h
    simp [h1, h2]
  · (repeat' split) <;> simp_all
theorem bB_F : bB False = 0 := by simp [bB]
theorem bB_T : bB True = 1 := by simp [bB]
def knC (D : Sto) : Int := if D 58 4 < 0 then D 58 0 else D 58 4
def rkC (D : Sto) : Int := if D 129 65 = -1 then D 129 64 else D 129 65
/-- what stands of x once the strikes below k are done -/
def stdI (st : Int → Int) : Nat → Nat → Nat
  | x, 0 => x
  | x, k + 1 => if x.testBit k = true ∧ ¬ st k < 0 then stdI st (x ^^^ (x &&& 2 ^ (st k).toNat)) k else stdI st x k
theorem stdI_lt (st : Int → Int) {q : Nat} : ∀ k x, x < 2 ^ q → stdI st x k < 2 ^ q := by
  intro k
  induction k with
  | zero => intro x h; exact h
  | succ k ih =>
    intro x h
    unfold stdI
    split
    · exact ih _ (andn_lt h)
    · exact ih _ h
/-- the notes keep their bounds -/
def NT (D : Sto) (q nb m : Nat) : Prop := q ≤ 24 ∧ ∀ k : Nat, k < q → D 62 k < 24 ∧ (D 62 k < 0 → (0 ≤ D 59 k ∧ D 59 k < m) ∧ (0 ≤ D 60 k ∧ D 60 k < nb))
def ntP (D : Sto) (set : Nat) (k : Nat) : Bool := !(set.testBit k && decide (D 62 k < 0)) || decide (bB (mkD D (D 59 k) (D 60 k) = D 55 (D 60 k)) = D 61 k)
section N1
variable {xs : Int → Int} {n : Int × Int} {D : Sto} {nb m q : Nat}
theorem c55 (d : Nat) : den (d + 1) 55 [(2, 58)] (Sg xs n D) = some ((0, knC D), Sg xs n D) := by
  simp only [n55, h55_0, h55_18]
  unfold knC
  (repeat' split) <;> first | rfl | (exfalso; omega)
theorem c306 (d : Nat) : den (d + 1) 306 [(2, 129)] (Sg xs n D) = some ((0, rkC D), Sg xs n D) := by
  simp only [n306, h306_0, h306_19]
  unfold rkC
  (repeat' split) <;> first | rfl | (exfalso; omega)
theorem k56 (d : Nat) (hq : q ≤ 24) (hS : ∀ k : Nat, k < q → D 62 k < 24) : ∀ k x, k ≤ q → x < 2 ^ q → Rn (d + 1) 56 17 [some (2, 58), some (0, ((x : Nat) : Int)), some (0, (k : Int) - 1)] [] (Sg xs n D) = some ((0, ((stdI (D 62) x k : Nat) : Int)), Sg xs n D) := by
  intro k
  induction k with
  | zero =>
    intro x _ _
    rw [h56_17, if_pos (by omega)]
    rfl
  | succ k ih =>
    intro x hk hx
    have hx2 : x < 2147483648 := Nat.lt_of_lt_of_le hx (Nat.le_trans (Nat.pow_le_pow_right (by decide) hq) (by decide))
    have hs := hS k (by omega)
    rw [show ((k + 1 : Nat) : Int) - 1 = (k : Int) by omega, h56_17, if_neg (by omega), c181 d x k hx2 (by omega), cK0, pR0, h56_26, bB_if]
    unfold stdI
    by_cases h1 : x.testBit k = true
    · rw [if_pos h1, if_pos (inb_t (by omega) (by omega))]
      by_cases h2 : D 62 k < 0
      · rw [if_pos h2, if_neg (fun h => h.2 h2), h56_52, w32_idP (by omega) (by omega)]
        exact ih x (by omega) hx
      · have e := c180 (xs := xs) (n := n) (D := D) d (D 62 k).toNat (by omega)
        rw [Int.toNat_of_nonneg (by omega)] at e
        have h5 : 2 ^ (D 62 k).toNat < 2147483648 := Nat.lt_of_lt_of_le (Nat.pow_lt_pow_right (by decide) (show (D 62 k).toNat < 24 by omega)) (by decide)
        rw [if_neg h2, if_pos (inb_t (by omega) (by omega)), if_pos ⟨h1, h2⟩, e, cK0, pR0, h56_48, h56_52, i_andn_nat hx2 h5, w32_idP (by omega) (by omega)]
        exact ih _ (by omega) (andn_lt hx)
    · rw [if_neg h1, if_neg (fun h => h1 h.1), h56_52, w32_idP (by omega) (by omega)]
      exact ih x (by omega) hx
theorem c56 (d : Nat) (hk : knC D = q) (H : NT D q nb m) : den (d + 2) 56 [(2, 58)] (Sg xs n D) = some ((0, ((stdI (D 62) (2 ^ q - 1) q : Nat) : Int)), Sg xs n D) := by
  obtain ⟨hq, hE⟩ := H
  have h5 : 2 ^ q < 2147483648 := Nat.lt_of_le_of_lt (Nat.pow_le_pow_right (by decide) hq) (by decide)
  have h6 : 0 < 2 ^ q := Nat.pow_pos (by decide)
  simp only [n56, h56_0, c55 d, cK0, pR0, hk, h56_4, c180 d q (show q < 31 by omega), h56_7, h56_14]
  rw [w32_idP (z := ((2 ^ q : Nat) : Int) - 1) (by omega) (by omega), w32_idP (z := (q : Int) - 1) (by omega) (by omega), show ((2 ^ q : Nat) : Int) - 1 = ((2 ^ q - 1 : Nat) : Int) by omega]
  exact k56 d hq (fun k hk => (hE k hk).1) q _ (Nat.le_refl q) (by omega)
theorem k58 (d set : Nat) (hs : set < 2147483648) (hk : D 58 0 = q) (H : EG D nb m) (HT : NT D q nb m) : ∀ r i, i + r = q → Rn (d + 4) 58 2 [some (2, 58), some (0, (set : Int)), some (0, ((i : Nat) : Int)), none] [] (Sg xs n D) = some ((0, bB (anF (ntP D set) i r = true)), Sg xs n D) := by
  obtain ⟨hq, hE⟩ := HT
  intro r
  induction r with
  | zero =>
    intro i hi
    rw [h58_2, hk, if_pos (by omega)]
    rfl
  | succ r ih =>
    intro i hi
    have hn := hE i (by omega)
    have hi2 := ih (i + 1) (by omega)
    rw [show anF (ntP D set) i (r + 1) = (ntP D set i && anF (ntP D set) (i + 1) r) from rfl]
    by_cases h2 : D 62 i < 0
    rotate_left
    · rw [h58_2, hk, if_neg (by omega), c181 (d + 3) set i hs (by omega), cK0, pR0, h58_15, bB_if]
      by_cases h1 : set.testBit i = true
      · rw [if_pos h1, if_pos (inb_t (by omega) (by omega)), if_pos h2, h58_31, h58_32, if_pos rfl, h58_67, w1 (show i < 2147483647 by omega), hi2]
        simp [ntP, h1, h2]
      · rw [if_neg h1, h58_31, h58_32, if_pos rfl, h58_67, w1 (show i < 2147483647 by omega), hi2]
        simp [ntP, h1]
    obtain ⟨⟨e1, e2⟩, ⟨e3, e4⟩⟩ := hn.2 h2
    have e := c98 (xs := xs) (n := n) (D := D) d (D 59 i).toNat (D 60 i).toNat H (by omega) (by omega)
    rw [Int.toNat_of_nonneg e1, Int.toNat_of_nonneg e3] at e
    rw [h58_2, hk, if_neg (by omega), c181 (d + 3) set i hs (by omega), cK0, pR0, h58_15, bB_if]
    simp only [inb_t (show (0 : Int) ≤ (i : Int) by omega) (show (i : Int) < 24 by omega), if_true, h58_31, h58_32, e, cK0, pR0, h58_56, h58_67, w1 (show i < 2147483647 by omega), hi2]
    by_cases h1 : set.testBit i = true
    · by_cases h3 : bB (mkD D (D 59 i) (D 60 i) = D 55 (D 60 i)) = D 61 i
      · simp [ntP, h1, h2, h3]
      · simp [ntP, h1, h2, h3, bB_F]
    · simp [ntP, h1]
theorem c58 (d set : Nat) (hs : set < 2147483648) (hk : D 58 0 = q) (H : EG D nb m) (HT : NT D q nb m) : den (d + 5) 58 [(2, 58), (0, (set : Int))] (Sg xs n D) = some ((0, bB (anF (ntP D set) 0 q = true)), Sg xs n D) := by
  rw [n58, h58_0]
  exact k58 d set hs hk H HT q 0 (by omega)
end N1
