/-! The most of one answer: class and reference -/
/-- how many of those below k, out of set, are answered a -/
def cntV (f : Nat → Nat) (set a : Nat) : Nat → Nat
  | 0 => 0
  | k + 1 => if set.testBit k = true ∧ f k = a then cntV f set a k + 1 else cntV f set a k
def mxV (f : Nat → Nat) (set : Nat) : Nat → Nat
  | 0 => 0
  | k + 1 => if set.testBit k = true then max (mxV f set k) (cntV f set (f k) (k + 1)) else mxV f set k
def wrV (f : Nat → Nat) (set K : Nat) : Nat → Nat
  | 0 => 0
  | k + 1 => if set.testBit k = true then max (wrV f set K k) (cntV f set (f k) K) else wrV f set K k
theorem cntV_le (f : Nat → Nat) (set a : Nat) : ∀ k, cntV f set a k ≤ k := by
  intro k
  induction k with
  | zero => exact Nat.le_refl 0
  | succ k ih =>
    unfold cntV
    split <;> omega
theorem cntV_mono (f : Nat → Nat) (set a : Nat) : ∀ j k, cntV f set a k ≤ cntV f set a (k + j) := by
  intro j
  induction j with
  | zero => intro k; exact Nat.le_refl _
  | succ j ih =>
    intro k
    have := ih k
    rw [show k + (j + 1) = (k + j) + 1 by omega]
    have e : cntV f set a (k + j + 1) = if set.testBit (k + j) = true ∧ f (k + j) = a then cntV f set a (k + j) + 1 else cntV f set a (k + j) := rfl
    rw [e]
    split <;> omega
theorem mxV_le (f : Nat → Nat) (set : Nat) : ∀ k, mxV f set k ≤ k := by
  intro k
  induction k with
  | zero => exact Nat.le_refl 0
  | succ k ih =>
    have := cntV_le f set (f k) (k + 1)
    unfold mxV
    split <;> omega
theorem mxV_up (f : Nat → Nat) (set a : Nat) : ∀ k, cntV f set a k ≤ mxV f set k := by
  intro k
  induction k with
  | zero => exact Nat.le_refl 0
  | succ k ih =>
    have e : cntV f set a (k + 1) = if set.testBit k = true ∧ f k = a then cntV f set a k + 1 else cntV f set a k := rfl
    unfold mxV
    by_cases h : set.testBit k = true
    · rw [if_pos h]
      by_cases h2 : f k = a
      · rw [h2]
        exact Nat.le_max_right _ _
      · rw [e, if_neg (fun q => h2 q.2)]
        exact Nat.le_trans ih (Nat.le_max_left _ _)
    · rw [if_neg h, e, if_neg (fun q => h q.1)]
      exact ih
theorem mx_ws (f : Nat → Nat) (set K : Nat) : mxV f set K = wrV f set K K := by
  have h1 : ∀ k, k ≤ K → mxV f set k ≤ wrV f set K k := by
    intro k
    induction k with
    | zero => intro _; exact Nat.le_refl 0
    | succ k ih =>
      intro hk
      have i1 := ih (by omega)
      have i2 := cntV_mono f set (f k) (K - (k + 1)) (k + 1)
      rw [show k + 1 + (K - (k + 1)) = K by omega] at i2
      unfold mxV wrV
      split <;> omega
  have h2 : ∀ k, wrV f set K k ≤ mxV f set K := by
    intro k
    induction k with
    | zero => exact Nat.zero_le _
    | succ k ih =>
      have := mxV_up f set (f k) K
      unfold wrV
      split <;> omega
  exact Nat.le_antisymm (h1 K (Nat.le_refl K)) (h2 K)
def off63 (F D : Sto) : Prop := ∀ c j : Int, ¬ c = 63 → F c j = D c j
section A1
variable {xs : Int → Int} {n : Int × Int} {D : Sto} {nb m : Nat}
theorem c321 (d : Nat) (a b : Int) : den (d + 1) 321 [(0, a), (0, b)] (Sg xs n D) = some ((0, max a b), Sg xs n D) := by
  simp only [n321, h321_0, h321_10]
  split
  · rw [Int.max_eq_right (by omega)]
  · rw [Int.max_eq_left (by omega)]
theorem k60a (d : Nat) (l1 l2 l3 l4 l5 l6 : Int) : ∀ r k (F : Sto), k + r = 256 → (∀ j : Nat, j < k → F 63 j = 0) → ∃ F', off63 F' F ∧ (∀ j : Nat, j < 256 → F' 63 j = 0) ∧ Rn d 60 17 [some (2, 58), some (0, l1), some (0, l2), some (0, l3), some (0, l4), some (0, l5), some (0, l6), some (0, ((k : Nat) : Int)), none] [] (Sg xs n F) = Rn d 60 42 [some (2, 58), some (0, l1), some (0, l2), some (0, l3), some (0, l4), some (0, l5), some (0, l6), some (0, 0), none] [] (Sg xs n F') := by
  intro r
  induction r with
  | zero =>
    intro k F hk h0
    refine ⟨F, fun c j _ => rfl, fun j hj => h0 j (by omega), ?_⟩
    rw [h60_17, if_pos (by omega)]
  | succ r ih =>
    intro k F hk h0
    obtain ⟨F', a1, a2, a3⟩ := ih (k + 1) (up F 63 k 0) (by omega) (fun j hj => by
      by_cases e : j = k
      · rw [e, up_at]
      · rw [up_ni (by omega)]
        exact h0 j (by omega))
    refine ⟨F', fun c j h => by rw [a1 c j h, up_ne h], a2, ?_⟩
    rw [h60_17, if_neg (by omega), if_pos (inb_t (by omega) (by omega)), w1 (show k < 2147483647 by omega)]
    exact a3
theorem and255 (x : Nat) (h : x < 256) : x &&& 255 = x := by
  rw [show (255 : Nat) = 2 ^ 8 - 1 from rfl, Nat.and_two_pow_sub_one_eq_mod]
  exact Nat.mod_eq_of_lt h
theorem k60b (d e b c set : Nat) (f : Nat → Nat) (H : EG D nb m) (he : e < m) (hb : b < nb) (hc : c < nb) (hs : set < 65536) (hf : ∀ v : Nat, v < 16 → mkD (up D 55 c v) e b = f v ∧ f v < 256) : ∀ r k (F : Sto), k + r = 16 → (∀ z j : Int, ¬ z = 63 → ¬ (z = 55 ∧ j = c) → F z j = D z j) → (∀ a : Nat, a < 256 → F 63 a = cntV f set a k) → ∃ F', off63 F' D ∧ Rn (d + 3) 60 42 [some (2, 58), some (0, (e : Int)), some (0, (b : Int)), some (0, (c : Int)), some (0, (set : Int)), some (0, D 55 c), some (0, ((mxV f set k : Nat) : Int)), some (0, ((k : Nat) : Int)), none] [] (Sg xs n F) = some ((0, ((mxV f set 16 : Nat) : Int)), Sg xs n F') := by
  have h8 := H.2.1
  intro r
  induction r with
  | zero =>
    intro k F hk hF h63
    obtain rfl : k = 16 := by omega
    refine ⟨up F 55 c (D 55 c), ?_, ?_⟩
    · intro z j hz
      by_cases q : z = 55 ∧ j = c
      · rw [q.1, q.2, up_at]
      · have : up F 55 c (D 55 c) z j = F z j := by
          unfold up
          rw [if_neg q]
        rw [this]
        exact hF z j hz q
    · rw [h60_42, if_pos (by decide), if_pos (inb_t (by omega) (by omega))]
  | succ r ih =>
    intro k F hk hF h63
    rw [h60_42, if_neg (by omega), c181 (d + 2) set k (by omega) (by omega), cK0, pR0, h60_56, bB_if]
    by_cases h : set.testBit k = true
    · have hfk := hf k (by omega)
      have hcl := cntV_le f set (f k) k
      have hml := mxV_le f set k
      have ef : ∀ z : Int, ¬ z = 63 → up F 55 c k z = up D 55 c k z := by
        intro z hz
        funext j
        unfold up
        by_cases q : z = 55 ∧ j = c
        · rw [if_pos q, if_pos q]
        · rw [if_neg q, if_neg q]
          exact hF z j hz q
      have HE : EG (up F 55 c k) nb m := by
        have := EG_up (b := c) (v := k) H
        unfold EG at this ⊢
        rw [ef 30 (by decide), ef 31 (by decide), ef 32 (by decide)]
        exact this
      have em : mkD (up F 55 c k) e b = f k := by
        rw [← hfk.1]
        unfold mkD
        rw [ef 30 (by decide), ef 31 (by decide), ef 32 (by decide), ef 34 (by decide), ef 55 (by decide), ef 56 (by decide)]
      have ea : i_and ((f k : Nat) : Int) 255 = ((f k : Nat) : Int) := by
        have := i_and_nat (x := f k) (y := 255) (by omega) (by decide)
        rw [and255 _ hfk.2] at this
        exact this
      have e63 : (up F 55 c k) 63 ((f k : Nat) : Int) = ((cntV f set (f k) k : Nat) : Int) := by
        rw [up_ne (by decide)]
        exact h63 (f k) (by omega)
      rw [if_pos h, if_pos (inb_t (by omega) (by omega)), c97 d e b HE he hb, cK0, pR0, em, h60_79, ea, inb_t (show (0 : Int) ≤ ((f k : Nat) : Int) by omega) (show ((f k : Nat) : Int) < 256 by omega), if_pos rfl, if_pos rfl, if_pos rfl, up_at, e63, w1 (show cntV f set (f k) k < 2147483647 by omega), c321 (d + 2), cK0, pR0, h60_108, h60_110, w1 (show k < 2147483647 by omega)]
      have en : cntV f set (f k) (k + 1) = cntV f set (f k) k + 1 := by
        show (if _ then _ else _) = _
        rw [if_pos ⟨h, rfl⟩]
      have ex : mxV f set (k + 1) = max (mxV f set k) (cntV f set (f k) k + 1) := by
        show (if _ then _ else _) = _
        rw [if_pos h, en]
      have := ih (k + 1) (up (up F 55 c k) 63 (f k) ((cntV f set (f k) k + 1 : Nat) : Int)) (by omega) (by
        intro z j hz hq
        rw [up_ne hz]
        have : up F 55 c k z j = F z j := by
          unfold up
          rw [if_neg hq]
        rw [this]
        exact hF z j hz hq) (by
        intro a ha
        have et : cntV f set a (k + 1) = if set.testBit k = true ∧ f k = a then cntV f set a k + 1 else cntV f set a k := rfl
        by_cases q : f k = a
        · rw [et, if_pos ⟨h, q⟩, ← q, up_at]
        · rw [et, if_neg (fun w => q w.2), up_ni (by omega), up_ne (by decide)]
          exact h63 a ha)
      rw [ex] at this
      rw [show ((max (mxV f set k) (cntV f set (f k) k + 1) : Nat) : Int) = max ((mxV f set k : Nat) : Int) ((cntV f set (f k) k + 1 : Nat) : Int) by omega] at this
      exact this
    · rw [if_neg h, h60_110, w1 (show k < 2147483647 by omega)]
      have := ih (k + 1) F (by omega) hF (by
        intro a ha
        have et : cntV f set a (k + 1) = if set.testBit k = true ∧ f k = a then cntV f set a k + 1 else cntV f set a k := rfl
        rw [et, if_neg (fun w => h w.1)]
        exact h63 a ha)
      rw [show mxV f set (k + 1) = mxV f set k by show (if _ then _ else _) = _; rw [if_neg h]] at this
      exact this
theorem c60 (d e b c set : Nat) (f : Nat → Nat) (H : EG D nb m) (he : e < m) (hb : b < nb) (hc : c < nb) (hs : set < 65536) (hf : ∀ v : Nat, v < 16 → mkD (up D 55 c v) e b = f v ∧ f v < 256) : ∃ F, off63 F D ∧ den (d + 4) 60 [(2, 58), (0, (e : Int)), (0, (b : Int)), (0, (c : Int)), (0, (set : Int))] (Sg xs n D) = some ((0, ((mxV f set 16 : Nat) : Int)), Sg xs n F) := by
  have h8 := H.2.1
  obtain ⟨F', a1, a2, a3⟩ := k60a (xs := xs) (n := n) (d + 3) e b c set (D 55 c) 0 256 0 D (by omega) (fun j hj => by omega)
  obtain ⟨F, b1, b2⟩ := k60b (xs := xs) (n := n) d e b c set f H he hb hc hs hf 16 0 F' (by omega) (fun z j h1 _ => a1 z j h1) (fun a ha => a2 a ha)
  refine ⟨F, b1, ?_⟩
  rw [n60, h60_0, if_pos (inb_t (by omega) (by omega))]
  exact a3.trans b2
end A1
