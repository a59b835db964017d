/-! Text: words read by the class, named by the reference -/
section S99a
variable {xs : Int → Int} {n : Int × Int} {D : Sto}
theorem u2_ua {z a b x y x' : Int} (h : ¬ a = b) : up (u2 D z a b x y) z a x' = u2 D z a b x' y := by
  funext c j
  unfold u2 up
  by_cases q : c = z ∧ j = a
  · rw [if_pos q, if_neg (by omega), if_pos q]
  · rw [if_neg q]
    by_cases q2 : c = z ∧ j = b
    · rw [if_pos q2, if_pos q2]
    · rw [if_neg q2, if_neg q, if_neg q2, if_neg q]
theorem u2_ub {z a b x y y' : Int} : up (u2 D z a b x y) z b y' = u2 D z a b x y' := by
  funext c j
  unfold u2 up
  by_cases q2 : c = z ∧ j = b
  · rw [if_pos q2, if_pos q2]
  · rw [if_neg q2, if_neg q2, if_neg q2]
/-- the class's number of a word once p letters are read -/
def cdP (f : Int → Int) (st : Int) (len p : Nat) : Int := ((vwN f st len (min p 6) * 32 ^ (6 - min p 6) : Nat) : Int)
theorem k119 (d : Nat) (N st : Int) (len : Nat) (hN : D 3 2 = N) (hN7 : N ≤ 700) (h5 : D 3 5 = st) (h0 : 0 ≤ st) (hl : ∀ p : Nat, p < len → st + p < N ∧ isL (D 4 (st + p)) = true) (he : ¬ (st + len < N ∧ isL (D 4 (st + len)) = true)) : ∀ (r p : Nat), p + r = len → Rn (d + 1) 119 5 [some (2, 3)] [] (Sg xs n (u2 D 3 6 3 (cdP (D 4) st len p) (st + p))) = Rn (d + 1) 119 87 [some (2, 3)] [] (Sg xs n (u2 D 3 6 3 (cdP (D 4) st len len) (st + len))) := by
  intro r
  induction r with
  | zero =>
    intro p hp
    have e : p = len := by omega
    subst e
    rw [h119_5, u2_b, u2_i (by decide) (by decide), hN]
    by_cases q : st + p < N
    · rw [if_neg (fun z => z q), if_pos (inb_t (by omega) (by omega)), u2_ne (by decide), c117, cK0, pR0, h119_28, bB_f (fun z => he ⟨q, z⟩), if_pos rfl]
    · rw [if_pos q]
  | succ r ih =>
    intro p hp
    obtain ⟨q, b⟩ := hl p (by omega)
    have t := inb_t (show 0 ≤ st + (p : Int) by omega) (show st + (p : Int) < 700 by omega)
    have ew : w32 (st + (p : Int) - st) = p := by rw [w32_idP (by omega) (by omega)]; omega
    rw [h119_5, u2_b, u2_i (by decide) (by decide), hN, if_neg (fun z => z q), if_pos t, u2_ne (by decide), c117, cK0, pR0, h119_28, bB_t b, if_neg (by decide), u2_b, u2_i (by decide) (by decide), h5, ew]
    have fin : Rn (d + 1) 119 74 [some (2, 3)] [] (Sg xs n (u2 D 3 6 3 (cdP (D 4) st len (p + 1)) (st + p))) = Rn (d + 1) 119 87 [some (2, 3)] [] (Sg xs n (u2 D 3 6 3 (cdP (D 4) st len len) (st + len))) := by
      rw [h119_74, u2_b, w32_idP (by omega) (by omega), u2_ub, show st + (p : Int) + 1 = st + ((p + 1 : Nat) : Int) by omega]
      exact ih (p + 1) (by omega)
    by_cases c : p < 6
    · have e33 := c33 (xs := xs) (n := n) (D := u2 D 3 6 3 (cdP (D 4) st len p) (st + p)) d (D 4) st len p c (by omega) (fun p hp => (hl p hp).2)
      have ec : cdP (D 4) st len p = ((vwN (D 4) st len p * 32 ^ (6 - p) : Nat) : Int) := by
        unfold cdP
        rw [Nat.min_eq_left (by omega)]
      have ec1 : cdP (D 4) st len (p + 1) = ((vwN (D 4) st len (p + 1) * 32 ^ (6 - (p + 1)) : Nat) : Int) := by
        unfold cdP
        rw [Nat.min_eq_left (by omega)]
      rw [← ec, ← ec1] at e33
      rw [if_neg (by omega), if_pos t, u2_a (by decide), u2_ne (by decide), e33, cK0]
      show Rn (d + 1) 119 71 [some (2, 3)] [(0, cdP (D 4) st len (p + 1)), (2, 3)] (Sg xs n (u2 D 3 6 3 (cdP (D 4) st len p) (st + p))) = _
      rw [h119_71, u2_ua (by decide)]
      exact fin
    · have ec : cdP (D 4) st len p = cdP (D 4) st len (p + 1) := by
        unfold cdP
        rw [Nat.min_eq_right (by omega), Nat.min_eq_right (by omega)]
      rw [if_pos (by omega), ec]
      exact fin
/-- the reference's name of a word -/
theorem k192 (d : Nat) (st en : Int) (len : Nat) (h8 : D 129 18 = st) (h7 : D 129 17 = en) (h0 : 0 ≤ st) (he : en = st + len) (h70 : en ≤ 700) (hl : ∀ p : Nat, p < len → isL (D 130 (st + p)) = true) : ∀ (r p : Nat), p + r = 6 → Rn d 192 7 [some (2, 129), some (0, (p : Int))] [] (Sg xs n (up D 129 20 ((vwN (D 130) st len p : Nat) : Int))) = some ((9, 0), Sg xs n (up D 129 20 ((vwN (D 130) st len 6 : Nat) : Int))) := by
  have pw : ∀ p : Nat, p ≤ 6 → (32 : Nat) ^ p ≤ 1073741824 := by
    intro p hp
    have : p = 0 ∨ p = 1 ∨ p = 2 ∨ p = 3 ∨ p = 4 ∨ p = 5 ∨ p = 6 := by omega
    obtain q | q | q | q | q | q | q := this <;> (subst q; decide)
  intro r
  induction r with
  | zero =>
    intro p hp
    have e : p = 6 := by omega
    subst e
    rw [h192_7, if_pos (by decide)]
  | succ r ih =>
    intro p hp
    have hv := vwN_b hl p
    have hv1 := vwN_b hl (p + 1)
    have q1 := pw (p + 1) (by omega)
    have hs : vwN (D 130) st len p * 2 ^ 5 < 2147483648 := by
      rw [Nat.pow_succ] at q1
      have : (2 : Nat) ^ 5 = 32 := rfl
      rw [this]
      omega
    have u20 : ∀ a b : Int, up (up D 129 20 a) 129 20 b = up D 129 20 b := fun a b => by
      funext z j
      unfold up
      split <;> rfl
    have es : i_shl ((vwN (D 130) st len p : Nat) : Int) 5 = ((vwN (D 130) st len p * 2 ^ 5 : Nat) : Int) := i_shl_nat (b := 5) (by decide) hs
    have fin : ∀ c : Nat, c < 32 → c = (if p < len then (D 130 (st + p) - 96).toNat else 0) → Rn d 192 53 [some (2, 129), some (0, (p : Int))] [(0, (c : Int)), (0, ((vwN (D 130) st len p * 2 ^ 5 : Nat) : Int)), (2, 129)] (Sg xs n (up D 129 20 ((vwN (D 130) st len p : Nat) : Int))) = some ((9, 0), Sg xs n (up D 129 20 ((vwN (D 130) st len 6 : Nat) : Int))) := by
      intro c hc hcc
      rw [h192_53, i_or_nat hs (by omega), or_add (show c < 2 ^ 5 from hc), w1 (by omega), u20]
      have e : vwN (D 130) st len p * 2 ^ 5 + c = vwN (D 130) st len (p + 1) := by
        rw [show vwN (D 130) st len (p + 1) = vwN (D 130) st len p * 32 + (if p < len then (D 130 (st + p) - 96).toNat else 0) from rfl, ← hcc]
      rw [e]
      exact ih (p + 1) (by omega)
    rw [h192_7, if_neg (by omega), up_ni (by decide), up_ni (by decide), h8, h7, w32_idP (by omega) (by omega), up_at, es, up_ne (show ¬ (130 : Int) = 129 by decide)]
    by_cases q : p < len
    · have b := isL_b (hl p q)
      have ew : w32 (w32 (D 130 (st + p) - 97) + 1) = (((D 130 (st + p) - 96).toNat : Nat) : Int) := by
        rw [w32_idP (z := D 130 (st + p) - 97) (by omega) (by omega), w32_idP (by omega) (by omega)]
        omega
      rw [if_neg (by omega), if_pos (inb_t (by omega) (by omega)), ew]
      exact fin _ (by omega) (by rw [if_pos q])
    · rw [if_pos (by omega)]
      exact fin 0 (by decide) (by rw [if_neg q])
end S99a
