/-! Contracts: ways, rings, who wins -/
def onlI (nx : Nat → Nat) (nb blk : Nat) : Nat → Nat
  | 0 => 2 ^ blk
  | k + 1 => if (rchI nx nb (2 ^ k) 0 nb).testBit blk then onlI nx nb blk k else onlI nx nb blk k ||| 2 ^ k
def rngI (nx : Nat → Nat) (nb blk : Nat) : Nat → Nat
  | 0 => 0
  | k + 1 => if (rchI nx nb 0 blk nb).testBit k then (if (rchI nx nb 0 k nb).testBit blk then rngI nx nb blk k ||| 2 ^ k else rngI nx nb blk k) else rngI nx nb blk k
def winI (nx : Nat → Nat) (nb n ck : Nat) : Nat → Nat
  | 0 => ck
  | k + 1 => ck ||| (if (n - (k + 1)) % 2 = 0 then smI nx (winI nx nb n ck k) nb else alI nx (winI nx nb n ck k) nb)
def eFr (D : Sto) (b i : Int) : Int := if 0 ≤ b ∧ b < D 30 0 ∧ 0 ≤ i ∧ i < D 33 b then D 37 (b * 3 + i) else -1
def fstP (D : Sto) (b : Int) (set : Nat) (i : Int) : Prop := 0 ≤ eFr D b i ∧ set.testBit (D 32 (eFr D b i)).toNat = true
theorem onlI_lt {nx : Nat → Nat} {nb blk : Nat} (hb : blk < 8) : ∀ k, k ≤ 8 → onlI nx nb blk k < 256 := by
  intro k
  induction k with
  | zero => intro _; exact p8 hb
  | succ k ih =>
    intro hk
    unfold onlI
    split
    · exact ih (by omega)
    · exact Nat.or_lt_two_pow (n := 8) (ih (by omega)) (p8 (by omega))
theorem rngI_lt {nx : Nat → Nat} {nb blk : Nat} : ∀ k, k ≤ 8 → rngI nx nb blk k < 256 := by
  intro k
  induction k with
  | zero => intro _; exact Nat.zero_lt_succ _
  | succ k ih =>
    intro hk
    unfold rngI
    split
    · split
      · exact Nat.or_lt_two_pow (n := 8) (ih (by omega)) (p8 (by omega))
      · exact ih (by omega)
    · exact ih (by omega)
theorem winI_lt {nx : Nat → Nat} {nb n ck : Nat} (h8 : nb ≤ 8) (hc : ck < 256) : ∀ k, winI nx nb n ck k < 256 := by
  intro k
  cases k with
  | zero => exact hc
  | succ k =>
    unfold winI
    refine Nat.or_lt_two_pow (n := 8) hc ?_
    split
    · exact smI_lt nb h8
    · exact alI_lt nb h8
section G3
variable {xs : Int → Int} {n : Int × Int} {D : Sto} {nb : Nat} {nx : Nat → Nat}
theorem c16 (d b : Nat) (H : NX D nb nx) (hb : b < 8) : den (d + 4) 16 [(2, 30), (0, (b : Int))] (Sg xs n D) = some ((0, if (rchI nx nb 0 0 nb).testBit b = true then ((onlI nx nb b nb : Nat) : Int) else 0), Sg xs n D) := by
  have H' := H
  obtain ⟨hnb, h8, hN⟩ := H
  have hr : ∀ shut start, start < 8 → rchI nx nb shut start nb < 256 := fun shut start h => rchI_lt (fun k hk => (hN k hk).2) h nb
  have e0 := c14 (xs := xs) (n := n) d 0 0 H' (by decide) (by decide)
  rw [n16, h16_0]
  simp only [Int.natCast_zero] at e0
  have hr0 := hr 0 0 (by decide)
  rw [e0, cK0, pR0, h16_6, c181 (d + 2) _ b (by omega) (by omega), cK0, pR0, h16_10]
  by_cases h : (rchI nx nb 0 0 nb).testBit b = true
  · rw [if_pos (by simp [bB, h]), if_pos h, c180 (d + 2) b (by omega), cK0, pR0, h16_19]
    refine (Rn_iter (fun k => [some (2, 30), some (0, (b : Int)), some (0, ((onlI nx nb b k : Nat) : Int)), some (0, (k : Int))]) (fun _ => Sg xs n D) nb (fun k hk => ?_)).trans ?_
    · show Rn (d + 3) 16 22 [some (2, 30), some (0, (b : Int)), some (0, ((onlI nx nb b k : Nat) : Int)), some (0, (k : Int))] [] (Sg xs n D) = Rn (d + 3) 16 22 [some (2, 30), some (0, (b : Int)), some (0, ((onlI nx nb b (k + 1) : Nat) : Int)), some (0, ((k + 1 : Nat) : Int))] [] (Sg xs n D)
      have hk2 := onlI_lt (nx := nx) (nb := nb) hb k (by omega)
      have hk4 := p8 (show k < 8 by omega)
      have e1 := c14 (xs := xs) (n := n) d 0 (2 ^ k) H' (by decide) hk4
      have hr1 := hr (2 ^ k) 0 (by decide)
      simp only [Int.natCast_zero] at e1
      rw [h16_22, hnb, if_neg (by omega), c180 (d + 2) k (by omega), cK0, pR0, h16_36, e1, cK0, pR0, h16_39, c181 (d + 2) _ b (by omega) (by omega), cK0, pR0, h16_43]
      simp only [c180 (d + 2) k (show k < 31 by omega), cK0, pR0, h16_51, h16_53, w1 (show k < 2147483647 by omega)]
      by_cases h2 : (rchI nx nb (2 ^ k) 0 nb).testBit b = true
      · rw [if_pos (by simp [bB, h2])]
        simp [onlI, h2]
      · rw [if_neg (by simp [bB, h2]), i_or_nat (by omega) (by omega)]
        simp [onlI, h2]
    · show Rn (d + 3) 16 22 [some (2, 30), some (0, (b : Int)), some (0, ((onlI nx nb b nb : Nat) : Int)), some (0, (nb : Int))] [] (Sg xs n D) = _
      rw [h16_22, hnb, if_pos (by omega)]
  · rw [if_neg (by simp [bB, h]), if_neg h]
theorem c17 (d b : Nat) (H : NX D nb nx) (hb : b < 8) : den (d + 4) 17 [(2, 30), (0, (b : Int))] (Sg xs n D) = some ((0, ((rngI nx nb b nb : Nat) : Int)), Sg xs n D) := by
  have H' := H
  obtain ⟨hnb, h8, hN⟩ := H
  have hr : ∀ shut start, start < 8 → rchI nx nb shut start nb < 256 := fun shut start h => rchI_lt (fun k hk => (hN k hk).2) h nb
  have e0 := c14 (xs := xs) (n := n) d b 0 H' hb (by decide)
  simp only [Int.natCast_zero] at e0
  have hr0 := hr 0 b hb
  rw [n17, h17_0, e0, cK0, pR0, h17_6]
  refine (Rn_iter (fun k => [some (2, 30), some (0, (b : Int)), some (0, ((rchI nx nb 0 b nb : Nat) : Int)), some (0, ((rngI nx nb b k : Nat) : Int)), some (0, (k : Int))]) (fun _ => Sg xs n D) nb (fun k hk => ?_)).trans ?_
  · show Rn (d + 3) 17 12 [some (2, 30), some (0, (b : Int)), some (0, ((rchI nx nb 0 b nb : Nat) : Int)), some (0, ((rngI nx nb b k : Nat) : Int)), some (0, (k : Int))] [] (Sg xs n D) = Rn (d + 3) 17 12 [some (2, 30), some (0, (b : Int)), some (0, ((rchI nx nb 0 b nb : Nat) : Int)), some (0, ((rngI nx nb b (k + 1) : Nat) : Int)), some (0, ((k + 1 : Nat) : Int))] [] (Sg xs n D)
    have hk2 := rngI_lt (nx := nx) (nb := nb) (blk := b) k (by omega)
    have hk4 := p8 (show k < 8 by omega)
    have e1 := c14 (xs := xs) (n := n) d k 0 H' (show k < 8 by omega) (by decide)
    have hr1 := hr 0 k (by omega)
    simp only [Int.natCast_zero] at e1
    rw [h17_12, hnb, if_neg (by omega), c181 (d + 2) _ k (by omega) (by omega), cK0, pR0, h17_27, bB_if, e1, cK0, pR0, h17_37, c181 (d + 2) _ b (by omega) (by omega), cK0, pR0, h17_41, bB_if]
    simp only [c180 (d + 2) k (show k < 31 by omega), cK0, pR0, h17_50, h17_52, w1 (show k < 2147483647 by omega)]
    rw [i_or_nat (by omega) (by omega)]
    by_cases h1 : (rchI nx nb 0 b nb).testBit k = true
    · by_cases h2 : (rchI nx nb 0 k nb).testBit b = true
      · simp [rngI, h1, h2]
      · simp [rngI, h1, h2]
    · simp [rngI, h1]
  · show Rn (d + 3) 17 12 [some (2, 30), some (0, (b : Int)), some (0, ((rchI nx nb 0 b nb : Nat) : Int)), some (0, ((rngI nx nb b nb : Nat) : Int)), some (0, (nb : Int))] [] (Sg xs n D) = _
    rw [h17_12, hnb, if_pos (by omega)]
theorem c22 (d m left ck : Nat) (H : NX D nb nx) (hc : ck < 256) (hl : left ≤ m) (hm : m < 100) : den (d + 3) 22 [(2, 30), (0, (m : Int)), (0, (left : Int)), (0, (ck : Int))] (Sg xs n D) = some ((0, ((winI nx nb m ck left : Nat) : Int)), Sg xs n D) := by
  have H' := H
  obtain ⟨hnb, h8, hN⟩ := H
  have hw := winI_lt (nx := nx) (nb := nb) (n := m) h8 hc
  rw [n22, h22_0]
  refine (Rn_iter (fun k => [some (2, 30), some (0, (m : Int)), some (0, (left : Int)), some (0, (ck : Int)), some (0, ((winI nx nb m ck k : Nat) : Int)), some (0, ((k + 1 : Nat) : Int)), none]) (fun _ => Sg xs n D) left (fun k hk => ?_)).trans ?_
  · show Rn (d + 2) 22 6 [some (2, 30), some (0, (m : Int)), some (0, (left : Int)), some (0, (ck : Int)), some (0, ((winI nx nb m ck k : Nat) : Int)), some (0, ((k + 1 : Nat) : Int)), none] [] (Sg xs n D) = Rn (d + 2) 22 6 [some (2, 30), some (0, (m : Int)), some (0, (left : Int)), some (0, (ck : Int)), some (0, ((winI nx nb m ck (k + 1) : Nat) : Int)), some (0, ((k + 1 + 1 : Nat) : Int)), none] [] (Sg xs n D)
    have hk2 := hw k
    have hs := smI_lt (nx := nx) (set := winI nx nb m ck k) nb h8
    have ha := alI_lt (nx := nx) (set := winI nx nb m ck k) nb h8
    have er : i_rem (w32 ((m : Int) - ((k + 1 : Nat) : Int))) 2 = (((m - (k + 1)) % 2 : Nat) : Int) := by
      rw [w32_idP (by omega) (by omega)]
      unfold i_rem
      rw [Int.tmod_eq_emod_of_nonneg (by omega)]
      omega
    rw [h22_6, if_neg (by omega), if_pos (by decide), er]
    simp only [h22_26, h22_40, h22_49, c18 d _ H' hk2, c19 d _ H' hk2, cK0, pR0, w1 (show k + 1 < 2147483647 by omega)]
    rw [i_or_nat (by omega) (by omega), i_or_nat (by omega) (by omega)]
    by_cases h : (m - (k + 1)) % 2 = 0
    · simp [winI, h]
    · have h1 : (m - (k + 1)) % 2 = 1 := by omega
      simp [winI, h1]
  · show Rn (d + 2) 22 6 [some (2, 30), some (0, (m : Int)), some (0, (left : Int)), some (0, (ck : Int)), some (0, ((winI nx nb m ck left : Nat) : Int)), some (0, ((left + 1 : Nat) : Int)), none] [] (Sg xs n D) = _
    rw [h22_6, if_pos (by omega)]
end G3
