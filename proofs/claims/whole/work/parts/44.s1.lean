/-! Contracts: slips -/
def mkS (n : Int) (F T ic sg bs : Int → Int) (e b : Int) : Int :=
  if 0 ≤ b ∧ b < n ∧ 1 < ic b then i_xor (i_xor (sg (F e)) (diffS n sg bs b)) (adjS n F T ic sg bs e) else i_xor (sg (F e)) (diffS n sg bs b)
def cntP (p : Nat → Bool) : Nat → Nat
  | 0 => 0
  | k + 1 => cntP p k + (if p k then 1 else 0)
theorem cntP_le (p : Nat → Bool) : ∀ k, cntP p k ≤ k := by
  intro k
  induction k with
  | zero => exact Nat.le_refl _
  | succ k ih =>
    unfold cntP
    split <;> omega
def sumN (f : Nat → Int) : Nat → Int
  | 0 => 0
  | k + 1 => sumN f k + f k
theorem sumN_b {f : Nat → Int} {c : Int} {m : Nat} (h : ∀ k, k < m → -c ≤ f k ∧ f k ≤ c) : ∀ k, k ≤ m → -(c * k) ≤ sumN f k ∧ sumN f k ≤ c * k := by
  intro k
  induction k with
  | zero => intro _; simp [sumN]
  | succ k ih =>
    intro hk
    have h1 := ih (by omega)
    have h2 := h k (by omega)
    unfold sumN
    rw [show c * ((k + 1 : Nat) : Int) = c * k + c by rw [Int.natCast_succ, Int.mul_add, Int.mul_one]]
    omega
/-- the graph's edges -/
def EG (D : Sto) (nb m : Nat) : Prop := D 30 0 = nb ∧ nb ≤ 8 ∧ D 30 1 = m ∧ m ≤ 16 ∧ ∀ k : Nat, k < m → (0 ≤ D 31 k ∧ D 31 k < nb) ∧ (0 ≤ D 32 k ∧ D 32 k < nb)
abbrev mkD (D : Sto) (e b : Int) : Int := mkS (D 30 0) (D 31) (D 32) (D 34) (D 55) (D 56) e b
abbrev ajD (D : Sto) (e : Int) : Int := adjS (D 30 0) (D 31) (D 32) (D 34) (D 55) (D 56) e
/-- a slip of the k-th edge to b looks right -/
def lrP (D : Sto) (b : Nat) (k : Nat) : Bool := decide (¬ D 32 k = b) && decide (mkD D k b = D 55 b)
theorem rz98 : ret01 98 0 = true ∧ ret01 98 1 = true := ⟨rfl, rfl⟩
section S1
variable {xs : Int → Int} {n : Int × Int} {D : Sto} {nb m : Nat} {nx : Nat → Nat}
theorem c97 (d e b : Nat) (H : EG D nb m) (he : e < m) (hb : b < nb) : den (d + 3) 97 [(2, 54), (0, (e : Int)), (0, (b : Int))] (Sg xs n D) = some ((0, mkD D e b), Sg xs n D) := by
  obtain ⟨hnb, h8, hm, h16, hE⟩ := H
  obtain ⟨⟨f1, f2⟩, f3, f4⟩ := hE e he
  simp only [n97, h97_0, h97_32, h97_43, h97_64, h97_70, c11c d (b : Int) (show D 30 0 ≤ 8 by omega) (by omega) (by omega), c9 (d + 1) (b : Int) (show D 30 0 ≤ 8 by omega), c12c d (e : Int) (show D 30 0 ≤ 8 by omega) (by omega) (by omega) f3 (by omega) f1 (by omega), cK0, pR0, bB_if, inb_t (show (0 : Int) ≤ (e : Int) by omega) (show (e : Int) < 16 by omega), inb_t f1 (show D 31 e < 8 by omega), if_true]
  unfold mkD mkS
  split <;> rfl
theorem c98 (d e b : Nat) (H : EG D nb m) (he : e < m) (hb : b < nb) : den (d + 4) 98 [(2, 54), (0, (e : Int)), (0, (b : Int))] (Sg xs n D) = some ((0, bB (mkD D e b = D 55 b)), Sg xs n D) := by
  have H' := H
  obtain ⟨hnb, h8, hm, h16, hE⟩ := H
  simp only [n98, h98_0, c97 d e b H' he hb, cK0, pR0, h98_6, h98_20, inb_t (show (0 : Int) ≤ (b : Int) by omega) (show (b : Int) < 8 by omega), if_true, rz98]
  unfold bB
  by_cases h : mkD D e b = D 55 b
  · rw [if_neg (by simp [h]), if_pos h]
  · rw [if_pos h, if_neg h]
theorem c101 (d b : Nat) (H : EG D nb m) (hb : b < nb) : den (d + 5) 101 [(2, 54), (0, (b : Int))] (Sg xs n D) = some ((0, ((cntP (lrP D b) m : Nat) : Int)), Sg xs n D) := by
  have H' := H
  obtain ⟨hnb, h8, hm, h16, hE⟩ := H
  rw [n101, h101_0]
  refine (Rn_iter (fun k => [some (2, 54), some (0, (b : Int)), some (0, ((cntP (lrP D b) k : Nat) : Int)), some (0, (k : Int))]) (fun _ => Sg xs n D) m (fun k hk => ?_)).trans ?_
  · show Rn (d + 4) 101 4 [some (2, 54), some (0, (b : Int)), some (0, ((cntP (lrP D b) k : Nat) : Int)), some (0, (k : Int))] [] (Sg xs n D) = Rn (d + 4) 101 4 [some (2, 54), some (0, (b : Int)), some (0, ((cntP (lrP D b) (k + 1) : Nat) : Int)), some (0, ((k + 1 : Nat) : Int))] [] (Sg xs n D)
    have hc := cntP_le (lrP D b) k
    rw [h101_4, hm, if_neg (by omega), if_pos (inb_t (by omega) (by omega))]
    simp only [c98 d k b H' hk hb, cK0, pR0, h101_34, h101_40, bB_if, w1 (show k < 2147483647 by omega), w1 (show cntP (lrP D b) k < 2147483647 by omega)]
    by_cases h1 : D 32 k = b
    · simp [cntP, lrP, h1]
    · by_cases h2 : mkD D k b = D 55 b
      · simp [cntP, lrP, h1, h2]
      · simp [cntP, lrP, h1, h2]
  · show Rn (d + 4) 101 4 [some (2, 54), some (0, (b : Int)), some (0, ((cntP (lrP D b) m : Nat) : Int)), some (0, (m : Int))] [] (Sg xs n D) = _
    rw [h101_4, hm, if_pos (by omega)]
theorem c100 (d : Nat) (H : EG D nb m) : den (d + 6) 100 [(2, 54)] (Sg xs n D) = some ((0, sumN (fun b => ((cntP (lrP D b) m : Nat) : Int)) nb), Sg xs n D) := by
  have H' := H
  obtain ⟨hnb, h8, hm, h16, hE⟩ := H
  have hs := sumN_b (f := fun b => ((cntP (lrP D b) m : Nat) : Int)) (c := 16) (m := nb) (fun k _ => by
    have := cntP_le (lrP D k) m
    show -16 ≤ ((cntP (lrP D k) m : Nat) : Int) ∧ ((cntP (lrP D k) m : Nat) : Int) ≤ 16
    omega)
  rw [n100, h100_0]
  refine (Rn_iter (fun k => [some (2, 54), some (0, sumN (fun b => ((cntP (lrP D b) m : Nat) : Int)) k), some (0, (k : Int))]) (fun _ => Sg xs n D) nb (fun k hk => ?_)).trans ?_
  · show Rn (d + 5) 100 4 [some (2, 54), some (0, sumN (fun b => ((cntP (lrP D b) m : Nat) : Int)) k), some (0, (k : Int))] [] (Sg xs n D) = Rn (d + 5) 100 4 [some (2, 54), some (0, sumN (fun b => ((cntP (lrP D b) m : Nat) : Int)) (k + 1)), some (0, ((k + 1 : Nat) : Int))] [] (Sg xs n D)
    have h1 := hs k (by omega)
    have h2 := hs (k + 1) (by omega)
    rw [h100_4, hnb, if_neg (by omega), c101 d k H' hk, cK0, pR0, h100_21, w1 (by omega)]
    rw [show sumN (fun b => ((cntP (lrP D b) m : Nat) : Int)) k + ((cntP (lrP D k) m : Nat) : Int) = sumN (fun b => ((cntP (lrP D b) m : Nat) : Int)) (k + 1) from rfl, w32_idP (by omega) (by omega)]
  · show Rn (d + 5) 100 4 [some (2, 54), some (0, sumN (fun b => ((cntP (lrP D b) m : Nat) : Int)) nb), some (0, (nb : Int))] [] (Sg xs n D) = _
    rw [h100_4, hnb, if_pos (by omega)]
/-- slips to the blocks of the set that don't look right -/
def wrS (D : Sto) (m set : Nat) (b : Nat) : Int := if set.testBit b then (m : Int) - D 34 b - ((cntP (lrP D b) m : Nat) : Int) else 0
theorem c106 (d set : Nat) (H : EG D nb m) (hs : set < 256) (hi : ∀ k : Nat, k < nb → 0 ≤ D 34 k ∧ D 34 k ≤ 16) : den (d + 6) 106 [(2, 54), (0, (set : Int))] (Sg xs n D) = some ((0, sumN (wrS D m set) nb), Sg xs n D) := by
  have H' := H
  obtain ⟨hnb, h8, hm, h16, hE⟩ := H
  have hsb := sumN_b (f := wrS D m set) (c := 64) (m := nb) (fun k hk => by
    have h1 := cntP_le (lrP D k) m
    have h2 := hi k hk
    unfold wrS
    split <;> omega)
  rw [n106, h106_0]
  refine (Rn_iter (fun k => [some (2, 54), some (0, (set : Int)), some (0, sumN (wrS D m set) k), some (0, (k : Int))]) (fun _ => Sg xs n D) nb (fun k hk => ?_)).trans ?_
  · show Rn (d + 5) 106 4 [some (2, 54), some (0, (set : Int)), some (0, sumN (wrS D m set) k), some (0, (k : Int))] [] (Sg xs n D) = Rn (d + 5) 106 4 [some (2, 54), some (0, (set : Int)), some (0, sumN (wrS D m set) (k + 1)), some (0, ((k + 1 : Nat) : Int))] [] (Sg xs n D)
    have h1 := hsb k (by omega)
    have h2 := hsb (k + 1) (by omega)
    have h3 := hi k hk
    have h4 := cntP_le (lrP D k) m
    rw [h106_4, hnb, if_neg (by omega), c181 (d + 4) set k (by omega) (by omega), cK0, pR0, h106_20, bB_if, if_pos (inb_t (by omega) (by omega)), c101 d k H' hk, cK0, pR0]
    simp only [h106_46, h106_49, w1 (show k < 2147483647 by omega), hm]
    have e : sumN (wrS D m set) (k + 1) = sumN (wrS D m set) k + wrS D m set k := rfl
    by_cases h : set.testBit k = true
    · rw [if_pos h]
      have e2 : wrS D m set k = (m : Int) - D 34 k - ((cntP (lrP D k) m : Nat) : Int) := by simp [wrS, h]
      rw [w32_idP (z := (m : Int) - D 34 k) (by omega) (by omega), w32_idP (z := (m : Int) - D 34 k - ((cntP (lrP D k) m : Nat) : Int)) (by omega) (by omega), ← e2, ← e, w32_idP (by omega) (by omega)]
    · rw [if_neg h]
      have e2 : wrS D m set k = 0 := by simp [wrS, h]
      rw [e, e2, Int.add_zero]
  · show Rn (d + 5) 106 4 [some (2, 54), some (0, (set : Int)), some (0, sumN (wrS D m set) nb), some (0, (nb : Int))] [] (Sg xs n D) = _
    rw [h106_4, hnb, if_pos (by omega)]
theorem c107 (d lim ck : Nat) (H : EG D nb m) (HN : NX D nb nx) (hl : lim < 100) (hl0 : 0 < lim) (hc : ck < 256) (hi : ∀ k : Nat, k < nb → 0 ≤ D 34 k ∧ D 34 k ≤ 16) : den (d + 7) 107 [(2, 54), (0, (lim : Int)), (0, (ck : Int))] (Sg xs n D) = some ((0, sumN (wrS D m (frcI nx nb ck (min (lim - 1) nb))) nb), Sg xs n D) := by
  have hf := frcI_lt (nx := nx) HN.2.1 hc (min (lim - 1) nb)
  have e : w32 ((lim : Int) - 1) = ((lim - 1 : Nat) : Int) := by rw [w32_idP (by omega) (by omega)]; omega
  rw [n107, h107_0, e, c20 (d + 3) ck (lim - 1) HN hc, cK0, pR0, h107_12, c106 d _ H hf hi, cK0, pR0, h107_15]
theorem c102 (d e b ck : Nat) (H : EG D nb m) (HN : NX D nb nx) (he : e < m) (hb : b < nb) (hc : ck < 256) : den (d + 5) 102 [(2, 54), (0, (e : Int)), (0, (b : Int)), (0, (ck : Int))] (Sg xs n D) = some ((0, if mkD D e b = D 55 b then -2 else if lngF nx nb b nb ck < 0 then -2 else w32 (lngF nx nb b nb ck + 1)), Sg xs n D) := by
  have h8 := HN.2.1
  simp only [n102, h102_0, c98 d e b H he hb, cK0, pR0, h102_6, bB_if, c21 (d + 1) b ck HN (by omega) hc, h102_23, h102_39]
  (repeat' split) <;> first | rfl | (exfalso; omega)
theorem c103 (d e b ck : Nat) (H : EG D nb m) (HN : NX D nb nx) (he : e < m) (hb : b < nb) (hc : ck < 256) : den (d + 5) 103 [(2, 54), (0, (e : Int)), (0, (b : Int)), (0, (ck : Int))] (Sg xs n D) = some ((0, if mkD D e b = D 55 b then -2 else if dstF nx nb ck nb (2 ^ b) < 0 then -2 else w32 (dstF nx nb ck nb (2 ^ b) + 1)), Sg xs n D) := by
  have h8 := HN.2.1
  simp only [n103, h103_0, c98 d e b H he hb, cK0, pR0, h103_6, bB_if, c15 (d + 1) b ck HN (by omega) hc, h103_23, h103_39]
  (repeat' split) <;> first | rfl | (exfalso; omega)
end S1
