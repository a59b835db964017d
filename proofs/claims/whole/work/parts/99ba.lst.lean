section S99b
variable {xs : Int → Int} {n : Int × Int} {D : Sto}
theorem k191c (d : Nat) (t : Nat) (ht : t < 21) : ∀ (r q : Nat) (o3 : Option Vv), q + r = wM t → Rn d 191 97 [some (2, 129), some (0, (t : Int)), some (0, ((wS t + q : Nat) : Int)), o3] [] (Sg xs n D) = Rn d 191 4 [some (2, 129), some (0, ((t + 1 : Nat) : Int)), some (0, ((wS (t + 1) : Nat) : Int)), none] [] (Sg xs n D) := by
  obtain ⟨w1', w2, w3, w4, w5⟩ := wT ⟨t, ht⟩
  simp only at w1' w2 w3 w4 w5
  intro r
  induction r with
  | zero =>
    intro q o3 hq
    have e : q = wM t := by omega
    subst e
    rw [h191_97, if_pos (inb_t (by omega) (by omega)), if_pos w2, w1 (by omega), w1 (by omega), w3]
  | succ r ih =>
    intro q o3 hq
    have := w1' ⟨q, by omega⟩ (by show q < wM t; omega)
    have this' : ¬ wb ((wS t + q : Nat) : Int) = 32 := this
    rw [h191_97, if_pos (inb_t (by omega) (by omega)), if_neg this', w1 (by omega)]
    exact ih (q + 1) none (by omega)
theorem k191v (d : Nat) (t : Nat) (ht : t < 21) (o3 : Option Vv) : Rn d 191 97 [some (2, 129), some (0, (t : Int)), some (0, ((wS t : Nat) : Int)), o3] [] (Sg xs n D) = Rn d 191 4 [some (2, 129), some (0, ((t + 1 : Nat) : Int)), some (0, ((wS (t + 1) : Nat) : Int)), none] [] (Sg xs n D) := k191c (xs := xs) (n := n) (D := D) d t ht (wM t) 0 o3 (Nat.zero_add _)
theorem k191a (d : Nat) (l1 : Int) (X : Option (Vv × Stt)) (st en : Int) (len a m : Nat) (h8 : D 129 18 = st) (h7 : D 129 17 = en) (h0 : 0 ≤ st) (he : en = st + len) (h70 : en ≤ 700) (f1 : ∀ q : Nat, q < m → ¬ wb ((a + q : Nat) : Int) = 32) (f2 : ∀ q : Nat, q = m → wb ((a + q : Nat) : Int) = 32) (ham : a + m < 106) (adv : ∀ o3 : Option Vv, Rn d 191 97 [some (2, 129), some (0, l1), some (0, (a : Int)), o3] [] (Sg xs n D) = X) : ∀ (r p : Nat), p + r = m → p ≤ len → (∀ q : Nat, q < p → D 130 (st + q) = wb ((a + q : Nat) : Int)) → ((len = m ∧ ∀ q : Nat, q < m → D 130 (st + q) = wb ((a + q : Nat) : Int)) ∧ Rn d 191 15 [some (2, 129), some (0, l1), some (0, (a : Int)), some (0, (p : Int))] [] (Sg xs n D) = some ((0, l1), Sg xs n D)) ∨ (¬ (len = m ∧ ∀ q : Nat, q < m → D 130 (st + q) = wb ((a + q : Nat) : Int)) ∧ Rn d 191 15 [some (2, 129), some (0, l1), some (0, (a : Int)), some (0, (p : Int))] [] (Sg xs n D) = X) := by
  intro r
  induction r with
  | zero =>
    intro p hp hpl hm
    have e : p = m := by omega
    have ew : w32 ((a : Int) + (p : Int)) = ((a + p : Nat) : Int) := by rw [w32_idP (by omega) (by omega)]; omega
    have ew2 : w32 (st + (p : Int)) = st + p := w32_idP (by omega) (by omega)
    have t1 := inb_t (show 0 ≤ ((a + p : Nat) : Int) by omega) (show ((a + p : Nat) : Int) < 106 by omega)
    have st69 : Rn d 191 15 [some (2, 129), some (0, l1), some (0, (a : Int)), some (0, (p : Int))] [] (Sg xs n D) = Rn d 191 69 [some (2, 129), some (0, l1), some (0, (a : Int)), some (0, (p : Int))] [] (Sg xs n D) := by
      rw [h191_15, ew, if_pos t1, if_pos (f2 p e)]
    by_cases q : st + (p : Int) = en
    · left
      refine ⟨⟨by omega, fun q hq => hm q (by omega)⟩, ?_⟩
      rw [st69, h191_69, ew, if_pos t1, if_neg (fun z => z (f2 p e)), h8, h7, ew2, if_neg (fun z => z q)]
    · right
      refine ⟨fun z => q (by have := z.1; omega), ?_⟩
      rw [st69, h191_69, ew, if_pos t1, if_neg (fun z => z (f2 p e)), h8, h7, ew2, if_pos q, adv]
  | succ r ih =>
    intro p hp hpl hm
    have nb := f1 p (by omega)
    have ew : w32 ((a : Int) + (p : Int)) = ((a + p : Nat) : Int) := by rw [w32_idP (by omega) (by omega)]; omega
    have ew2 : w32 (st + (p : Int)) = st + p := w32_idP (by omega) (by omega)
    have t1 := inb_t (show 0 ≤ ((a + p : Nat) : Int) by omega) (show ((a + p : Nat) : Int) < 106 by omega)
    have out : Rn d 191 69 [some (2, 129), some (0, l1), some (0, (a : Int)), some (0, (p : Int))] [] (Sg xs n D) = X := by
      rw [h191_69, ew, if_pos t1, if_pos nb, adv]
    by_cases q : st + (p : Int) < en
    · have t2 := inb_t (show 0 ≤ st + (p : Int) by omega) (show st + (p : Int) < 700 by omega)
      by_cases b : D 130 (st + p) = wb ((a + p : Nat) : Int)
      · have nx : Rn d 191 15 [some (2, 129), some (0, l1), some (0, (a : Int)), some (0, (p : Int))] [] (Sg xs n D) = Rn d 191 15 [some (2, 129), some (0, l1), some (0, (a : Int)), some (0, ((p + 1 : Nat) : Int))] [] (Sg xs n D) := by
          rw [h191_15, ew, if_pos t1, if_neg nb, h8, h7, ew2, if_neg (fun z => z q), if_pos t2, if_pos t1, if_neg (fun z => z b), w1 (by omega)]
        rw [nx]
        refine ih (p + 1) (by omega) (by omega) (fun q hq => ?_)
        by_cases c : q = p
        · rw [c]; exact b
        · exact hm q (by omega)
      · right
        refine ⟨fun z => b (z.2 p (by omega)), ?_⟩
        rw [h191_15, ew, if_pos t1, if_neg nb, h8, h7, ew2, if_neg (fun z => z q), if_pos t2, if_pos t1, if_pos b]
        exact out
    · right
      refine ⟨fun z => by have := z.1; omega, ?_⟩
      rw [h191_15, ew, if_pos t1, if_neg nb, h8, h7, ew2, if_pos q]
      exact out
theorem wF1 (t : Nat) (ht : t < 21) : (∀ q : Nat, q < wM t → ¬ wb ((wS t + q : Nat) : Int) = 32) ∧ (∀ q : Nat, q = wM t → wb ((wS t + q : Nat) : Int) = 32) ∧ wS t + wM t < 106 := by
  have h := wT ⟨t, ht⟩
  refine ⟨fun q hq => h.1 ⟨q, Nat.lt_trans hq h.2.2.2.2⟩ hq, fun q hq => ?_, h.2.2.2.1⟩
  rw [hq]
  exact h.2.1
theorem k191 (d : Nat) (st en : Int) (len : Nat) (h8 : D 129 18 = st) (h7 : D 129 17 = en) (h0 : 0 ≤ st) (he : en = st + len) (h70 : en ≤ 700) : ∀ (r t : Nat), t + r = 21 → Rn d 191 4 [some (2, 129), some (0, (t : Int)), some (0, ((wS t : Nat) : Int)), none] [] (Sg xs n D) = some ((0, wdF (D 130) st len r t), Sg xs n D) := by
  intro r
  induction r with
  | zero =>
    intro t ht
    have e : t = 21 := by omega
    rw [e, h191_4, if_pos (by decide)]
    rfl
  | succ r ih =>
    intro t ht
    have ht2 : t < 21 := by omega
    have ht3 : t + 1 + r = 21 := by omega
    obtain ⟨f1, f2, f3⟩ := wF1 t ht2
    have lt : ((wS t : Nat) : Int) < 106 := Int.ofNat_lt.mpr (Nat.lt_of_le_of_lt (Nat.le_add_right _ _) f3)
    rw [show wdF (D 130) st len (r + 1) t = if mtB (D 130) st len t = true then (t : Int) else wdF (D 130) st len r (t + 1) from rfl, h191_4, if_neg (fun z => z lt)]
    obtain ⟨a, b⟩ | ⟨a, b⟩ := k191a (xs := xs) (n := n) (D := D) d (t : Int) _ st en len (wS t) (wM t) h8 h7 h0 he h70 f1 f2 f3 (fun o3 => k191v d t ht2 o3) (wM t) 0 (Nat.zero_add _) (Nat.zero_le _) (fun q hq => absurd hq (Nat.not_lt_zero q))
    · rw [if_pos (mt_iff.mpr a)]
      exact b
    · rw [if_neg (fun z => a (mt_iff.mp z))]
      exact b.trans (ih (t + 1) ht3)
theorem c191 (d : Nat) (st en : Int) (len : Nat) (h8 : D 129 18 = st) (h7 : D 129 17 = en) (h0 : 0 ≤ st) (he : en = st + len) (h70 : en ≤ 700) : den (d + 1) 191 [(2, 129)] (Sg xs n D) = some ((0, wdF (D 130) st len 21 0), Sg xs n D) := by
  rw [n191, h191_0]
  exact k191 d st en len h8 h7 h0 he h70 21 0 rfl
end S99b
