/-! Contracts: sets of blocks as bits -/
theorem bB_if (p : Prop) [Decidable p] {α : Type} (a b : α) : (if bB p = 0 then a else b) = if p then b else a := by
  unfold bB
  by_cases h : p <;> simp [h]
def bhd (nx : Nat → Nat) (set : Nat) : Nat → Nat
  | 0 => 0
  | k + 1 => if set.testBit k then bhd nx set k ||| nx k else bhd nx set k
def smI (nx : Nat → Nat) (set : Nat) : Nat → Nat
  | 0 => 0
  | k + 1 => if nx k &&& set = 0 then smI nx set k else smI nx set k ||| 2 ^ k
def alI (nx : Nat → Nat) (set : Nat) : Nat → Nat
  | 0 => 0
  | k + 1 => if nx k ≠ 0 ∧ nx k ^^^ (nx k &&& set) = 0 then alI nx set k ||| 2 ^ k else alI nx set k
def rchI (nx : Nat → Nat) (nb shut start : Nat) : Nat → Nat
  | 0 => 2 ^ start
  | k + 1 => rchI nx nb shut start k ||| bhd nx (rchI nx nb shut start k ^^^ (rchI nx nb shut start k &&& shut)) nb
def dstF (nx : Nat → Nat) (nb goals : Nat) : Nat → Nat → Int
  | 0, _ => -2
  | r + 1, s => if s &&& goals = 0 then dstF nx nb goals r (s ||| bhd nx s nb) else ((nb - (r + 1) : Nat) : Int)
def frcI (nx : Nat → Nat) (nb set : Nat) : Nat → Nat
  | 0 => set
  | k + 1 => frcI nx nb set k ||| alI nx (frcI nx nb set k) nb
def lngF (nx : Nat → Nat) (nb b : Nat) : Nat → Nat → Int
  | 0, _ => -2
  | r + 1, s => if s.testBit b then ((nb - (r + 1) : Nat) : Int) else lngF nx nb b r (s ||| alI nx s nb)
theorem bhd_lt {nx : Nat → Nat} {set nb : Nat} (h : ∀ k, k < nb → nx k < 256) : ∀ k, k ≤ nb → bhd nx set k < 256 := by
  intro k
  induction k with
  | zero => intro _; exact Nat.zero_lt_succ _
  | succ k ih =>
    intro hk
    unfold bhd
    split
    · exact Nat.or_lt_two_pow (n := 8) (ih (by omega)) (h k (by omega))
    · exact ih (by omega)
theorem p8 {k : Nat} (h : k < 8) : 2 ^ k < 256 := Nat.pow_lt_pow_right (by decide) (n := 8) h
theorem smI_lt {nx : Nat → Nat} {set : Nat} : ∀ k, k ≤ 8 → smI nx set k < 256 := by
  intro k
  induction k with
  | zero => intro _; exact Nat.zero_lt_succ _
  | succ k ih =>
    intro hk
    unfold smI
    split
    · exact ih (by omega)
    · exact Nat.or_lt_two_pow (n := 8) (ih (by omega)) (p8 (by omega))
theorem alI_lt {nx : Nat → Nat} {set : Nat} : ∀ k, k ≤ 8 → alI nx set k < 256 := by
  intro k
  induction k with
  | zero => intro _; exact Nat.zero_lt_succ _
  | succ k ih =>
    intro hk
    unfold alI
    split
    · exact Nat.or_lt_two_pow (n := 8) (ih (by omega)) (p8 (by omega))
    · exact ih (by omega)
theorem andn_lt {x y n : Nat} (h : x < 2 ^ n) : x ^^^ (x &&& y) < 2 ^ n := Nat.xor_lt_two_pow h (Nat.lt_of_le_of_lt Nat.and_le_left h)
theorem rchI_lt {nx : Nat → Nat} {nb shut start : Nat} (h : ∀ k, k < nb → nx k < 256) (hs : start < 8) : ∀ k, rchI nx nb shut start k < 256 := by
  intro k
  induction k with
  | zero => exact p8 hs
  | succ k ih => exact Nat.or_lt_two_pow (n := 8) ih (bhd_lt h nb (Nat.le_refl _))
theorem frcI_lt {nx : Nat → Nat} {nb set : Nat} (hn : nb ≤ 8) (hs : set < 256) : ∀ k, frcI nx nb set k < 256 := by
  intro k
  induction k with
  | zero => exact hs
  | succ k ih => exact Nat.or_lt_two_pow (n := 8) ih (alI_lt nb hn)
theorem w1 {k : Nat} (h : k < 2147483647) : w32 ((k : Int) + 1) = ((k + 1 : Nat) : Int) := by
  rw [w32_idP (by omega) (by omega)]; rfl
/-- the rows of what lies behind, as numbers -/
def NX (D : Sto) (nb : Nat) (nx : Nat → Nat) : Prop := D 30 0 = nb ∧ nb ≤ 8 ∧ ∀ k : Nat, k < nb → D 35 k = nx k ∧ nx k < 256
section G2
variable {xs : Int → Int} {n : Int × Int} {D : Sto} {nb : Nat} {nx : Nat → Nat}
theorem c13 (d set : Nat) (H : NX D nb nx) (hs : set < 256) : den (d + 2) 13 [(2, 30), (0, (set : Int))] (Sg xs n D) = some ((0, ((bhd nx set nb : Nat) : Int)), Sg xs n D) := by
  obtain ⟨hnb, h8, hN⟩ := H
  have hlt := bhd_lt (set := set) (fun k hk => (hN k hk).2)
  rw [n13, h13_0]
  refine (Rn_iter (fun k => [some (2, 30), some (0, (set : Int)), some (0, ((bhd nx set k : Nat) : Int)), some (0, (k : Int))]) (fun _ => Sg xs n D) nb (fun k hk => ?_)).trans ?_
  · show Rn (d + 1) 13 4 [some (2, 30), some (0, (set : Int)), some (0, ((bhd nx set k : Nat) : Int)), some (0, (k : Int))] [] (Sg xs n D) = Rn (d + 1) 13 4 [some (2, 30), some (0, (set : Int)), some (0, ((bhd nx set (k + 1) : Nat) : Int)), some (0, ((k + 1 : Nat) : Int))] [] (Sg xs n D)
    have hk2 := hlt k (by omega)
    rw [h13_4, hnb, if_neg (by omega), c181 d set k (by omega) (by omega), cK0, pR0, h13_17, bB_if]
    simp only [h13_29, w1 (show k < 2147483647 by omega)]
    by_cases h : set.testBit k = true
    · rw [if_pos h, if_pos (inb_t (by omega) (by omega)), (hN k hk).1, i_or_nat (by omega) (by have := (hN k hk).2; omega)]
      simp [bhd, h]
    · rw [if_neg h]
      simp [bhd, h]
  · show Rn (d + 1) 13 4 [some (2, 30), some (0, (set : Int)), some (0, ((bhd nx set nb : Nat) : Int)), some (0, (nb : Int))] [] (Sg xs n D) = _
    rw [h13_4, hnb, if_pos (by omega)]
theorem c18 (d set : Nat) (H : NX D nb nx) (hs : set < 256) : den (d + 2) 18 [(2, 30), (0, (set : Int))] (Sg xs n D) = some ((0, ((smI nx set nb : Nat) : Int)), Sg xs n D) := by
  obtain ⟨hnb, h8, hN⟩ := H
  rw [n18, h18_0]
  refine (Rn_iter (fun k => [some (2, 30), some (0, (set : Int)), some (0, ((smI nx set k : Nat) : Int)), some (0, (k : Int))]) (fun _ => Sg xs n D) nb (fun k hk => ?_)).trans ?_
  · show Rn (d + 1) 18 4 [some (2, 30), some (0, (set : Int)), some (0, ((smI nx set k : Nat) : Int)), some (0, (k : Int))] [] (Sg xs n D) = Rn (d + 1) 18 4 [some (2, 30), some (0, (set : Int)), some (0, ((smI nx set (k + 1) : Nat) : Int)), some (0, ((k + 1 : Nat) : Int))] [] (Sg xs n D)
    have hk2 := smI_lt (nx := nx) (set := set) k (by omega)
    have hk3 := (hN k hk).2
    have hk4 := p8 (show k < 8 by omega)
    rw [h18_4, hnb, if_neg (by omega), if_pos (inb_t (by omega) (by omega)), (hN k hk).1, i_and_nat (by omega) (by omega), c180 d k (by omega), cK0, pR0]
    simp only [h18_28, h18_30, w1 (show k < 2147483647 by omega)]
    by_cases h : nx k &&& set = 0
    · rw [if_pos (by rw [h]; rfl)]
      simp [smI, h]
    · rw [if_neg (by omega), i_or_nat (by omega) (by omega)]
      simp [smI, h]
  · show Rn (d + 1) 18 4 [some (2, 30), some (0, (set : Int)), some (0, ((smI nx set nb : Nat) : Int)), some (0, (nb : Int))] [] (Sg xs n D) = _
    rw [h18_4, hnb, if_pos (by omega)]
theorem c19 (d set : Nat) (H : NX D nb nx) (hs : set < 256) : den (d + 2) 19 [(2, 30), (0, (set : Int))] (Sg xs n D) = some ((0, ((alI nx set nb : Nat) : Int)), Sg xs n D) := by
  obtain ⟨hnb, h8, hN⟩ := H
  rw [n19, h19_0]
  refine (Rn_iter (fun k => [some (2, 30), some (0, (set : Int)), some (0, ((alI nx set k : Nat) : Int)), some (0, (k : Int))]) (fun _ => Sg xs n D) nb (fun k hk => ?_)).trans ?_
  · show Rn (d + 1) 19 4 [some (2, 30), some (0, (set : Int)), some (0, ((alI nx set k : Nat) : Int)), some (0, (k : Int))] [] (Sg xs n D) = Rn (d + 1) 19 4 [some (2, 30), some (0, (set : Int)), some (0, ((alI nx set (k + 1) : Nat) : Int)), some (0, ((k + 1 : Nat) : Int))] [] (Sg xs n D)
    have hk2 := alI_lt (nx := nx) (set := set) k (by omega)
    have hk3 := (hN k hk).2
    have hk4 := p8 (show k < 8 by omega)
    rw [h19_4, hnb, if_neg (by omega), if_pos (inb_t (by omega) (by omega)), (hN k hk).1, i_andn_nat (by omega) (by omega), c180 d k (by omega), cK0, pR0]
    simp only [h19_39, h19_41, w1 (show k < 2147483647 by omega)]
    by_cases h0 : nx k = 0
    · rw [if_pos (by rw [h0]; rfl)]
      simp [alI, h0]
    · rw [if_neg (by omega), if_pos (inb_t (by omega) (by omega))]
      by_cases h : nx k ^^^ (nx k &&& set) = 0
      · rw [if_neg (by rw [h]; simp), i_or_nat (by omega) (by omega)]
        simp [alI, h, h0]
      · rw [if_pos (by omega)]
        simp [alI, h]
  · show Rn (d + 1) 19 4 [some (2, 30), some (0, (set : Int)), some (0, ((alI nx set nb : Nat) : Int)), some (0, (nb : Int))] [] (Sg xs n D) = _
    rw [h19_4, hnb, if_pos (by omega)]
theorem c14 (d start shut : Nat) (H : NX D nb nx) (h1 : start < 8) (h2 : shut < 256) : den (d + 3) 14 [(2, 30), (0, (start : Int)), (0, (shut : Int))] (Sg xs n D) = some ((0, ((rchI nx nb shut start nb : Nat) : Int)), Sg xs n D) := by
  have H' := H
  obtain ⟨hnb, h8, hN⟩ := H
  have hlt := rchI_lt (shut := shut) (fun k hk => (hN k hk).2) h1
  have hb : ∀ set, bhd nx set nb < 256 := fun set => bhd_lt (fun k hk => (hN k hk).2) nb (Nat.le_refl _)
  rw [n14, h14_0, c180 (d + 1) start (by omega), cK0, pR0, h14_4]
  have key : ∀ k, k ≤ nb → ∀ o1 : Option Vv, Rn (d + 2) 14 8 [some (2, 30), o1, some (0, (shut : Int)), some (0, ((rchI nx nb shut start (nb - k) : Nat) : Int)), some (0, ((nb - k : Nat) : Int))] [] (Sg xs n D) = some ((0, ((rchI nx nb shut start nb : Nat) : Int)), Sg xs n D) := by
    intro k
    induction k with
    | zero =>
      intro _ o1
      rw [h14_8, hnb, if_pos (by omega)]
      rfl
    | succ k ih =>
      intro hk o1
      have hl1 := hlt (nb - (k + 1))
      rw [h14_8, hnb, if_neg (by omega), i_andn_nat (by omega) (by omega), c13 d _ H' (andn_lt (n := 8) hl1), cK0, pR0, h14_27, w1 (by omega), i_or_nat (by omega) (by have := hb (rchI nx nb shut start (nb - (k + 1)) ^^^ (rchI nx nb shut start (nb - (k + 1)) &&& shut)); omega)]
      have e : nb - k = nb - (k + 1) + 1 := by omega
      have := ih (by omega) none
      rw [e] at this
      exact this
  have := key nb (Nat.le_refl _) (some (0, (start : Int)))
  rw [Nat.sub_self] at this
  exact this
theorem c15 (d start goals : Nat) (H : NX D nb nx) (h1 : start < 8) (h2 : goals < 256) : den (d + 3) 15 [(2, 30), (0, (start : Int)), (0, (goals : Int))] (Sg xs n D) = some ((0, dstF nx nb goals nb (2 ^ start)), Sg xs n D) := by
  have H' := H
  obtain ⟨hnb, h8, hN⟩ := H
  have hb : ∀ set, bhd nx set nb < 256 := fun set => bhd_lt (fun k hk => (hN k hk).2) nb (Nat.le_refl _)
  rw [n15, h15_0, c180 (d + 1) start (by omega), cK0, pR0, h15_4]
  have key : ∀ k, k ≤ nb → ∀ (o1 : Option Vv) (s : Nat), s < 256 → Rn (d + 2) 15 8 [some (2, 30), o1, some (0, (goals : Int)), some (0, (s : Int)), some (0, ((nb - k : Nat) : Int))] [] (Sg xs n D) = some ((0, dstF nx nb goals k s), Sg xs n D) := by
    intro k
    induction k with
    | zero =>
      intro _ o1 s _
      rw [h15_8, hnb, if_pos (by omega)]
      rfl
    | succ k ih =>
      intro hk o1 s hs
      rw [h15_8, hnb, if_neg (by omega), i_and_nat (by omega) (by omega)]
      unfold dstF
      by_cases h : s &&& goals = 0
      · have hb2 := hb s
        rw [if_pos (by rw [h]; rfl), if_pos h, c13 d _ H' hs, cK0, pR0, h15_32, w1 (by omega), i_or_nat (by omega) (by omega)]
        have e : nb - k = nb - (k + 1) + 1 := by omega
        have := ih (by omega) none (s ||| bhd nx s nb) (Nat.or_lt_two_pow (n := 8) hs hb2)
        rw [e] at this
        exact this
      · rw [if_neg (by omega), if_neg h]
  have := key nb (Nat.le_refl _) (some (0, (start : Int))) (2 ^ start) (p8 h1)
  rw [Nat.sub_self] at this
  exact this
theorem c20 (d set most : Nat) (H : NX D nb nx) (hs : set < 256) : den (d + 3) 20 [(2, 30), (0, (set : Int)), (0, (most : Int))] (Sg xs n D) = some ((0, ((frcI nx nb set (min most nb) : Nat) : Int)), Sg xs n D) := by
  have H' := H
  obtain ⟨hnb, h8, hN⟩ := H
  have hlt := frcI_lt (nx := nx) h8 hs
  rw [n20, h20_0]
  have key : ∀ k, k ≤ min most nb → ∀ o1 : Option Vv, Rn (d + 2) 20 5 [some (2, 30), o1, some (0, (most : Int)), some (0, ((frcI nx nb set (min most nb - k) : Nat) : Int)), some (0, ((min most nb - k : Nat) : Int))] [] (Sg xs n D) = some ((0, ((frcI nx nb set (min most nb) : Nat) : Int)), Sg xs n D) := by
    intro k
    induction k with
    | zero =>
      intro _ o1
      rw [h20_5, hnb]
      simp only [h20_34]
      by_cases h : most ≤ nb
      · rw [if_pos (by omega)]; rfl
      · rw [if_neg (by omega), if_pos (by omega)]; rfl
    | succ k ih =>
      intro hk o1
      have hl1 := hlt (min most nb - (k + 1))
      have hal := alI_lt (nx := nx) (set := frcI nx nb set (min most nb - (k + 1))) nb h8
      rw [h20_5, hnb, if_neg (by omega), if_neg (by omega), c19 d _ H' hl1, cK0, pR0, h20_26, w1 (by omega), i_or_nat (by omega) (by omega)]
      have e : min most nb - k = min most nb - (k + 1) + 1 := by omega
      have := ih (by omega) none
      rw [e] at this
      exact this
  have := key (min most nb) (Nat.le_refl _) (some (0, (set : Int)))
  rw [Nat.sub_self] at this
  exact this
theorem c21 (d b set : Nat) (H : NX D nb nx) (hb : b < 8) (hs : set < 256) : den (d + 3) 21 [(2, 30), (0, (b : Int)), (0, (set : Int))] (Sg xs n D) = some ((0, lngF nx nb b nb set), Sg xs n D) := by
  have H' := H
  obtain ⟨hnb, h8, hN⟩ := H
  rw [n21, h21_0]
  have key : ∀ k, k ≤ nb → ∀ (o2 : Option Vv) (s : Nat), s < 256 → Rn (d + 2) 21 5 [some (2, 30), some (0, (b : Int)), o2, some (0, (s : Int)), some (0, ((nb - k : Nat) : Int))] [] (Sg xs n D) = some ((0, lngF nx nb b k s), Sg xs n D) := by
    intro k
    induction k with
    | zero =>
      intro _ o1 s _
      rw [h21_5, hnb, if_pos (by omega)]
      rfl
    | succ k ih =>
      intro hk o1 s hs
      rw [h21_5, hnb, if_neg (by omega), c181 (d + 1) s b (by omega) (by omega), cK0, pR0, h21_19, bB_if]
      unfold lngF
      by_cases h : s.testBit b = true
      · rw [if_pos h, if_pos h]
      · have hal := alI_lt (nx := nx) (set := s) nb h8
        rw [if_neg h, if_neg h, c19 d _ H' hs, cK0, pR0, h21_31, w1 (by omega), i_or_nat (by omega) (by omega)]
        have e : nb - k = nb - (k + 1) + 1 := by omega
        have := ih (by omega) none (s ||| alI nx s nb) (Nat.or_lt_two_pow (n := 8) hs hal)
        rw [e] at this
        exact this
  have := key nb (Nat.le_refl _) (some (0, (set : Int))) set hs
  rw [Nat.sub_self] at this
  exact this
end G2
