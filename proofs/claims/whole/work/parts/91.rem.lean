/-! Runs: what is remembered -/
section S91
variable {xs : Int → Int} {n : Int × Int} {F D E G : Sto} {nb m : Nat}
def reC (D : Sto) (t u : Nat) : Sto := up (cpR (up D 64 4 (((t + 1) % 20 : Nat) : Int)) (69 + 3 * (((t + 1) % 20 : Nat) : Int)) 46) 64 0 ((min (u + 1) 20 : Nat) : Int)
theorem c29 (d t u : Nat) (ht : t < 20) (hu : u ≤ 20) (h4 : D 64 4 = t) (h0 : D 64 0 = u) : den (d + 2) 29 [(2, 64), (2, 46)] (Sg xs n D) = some ((9, 0), Sg xs n (reC D t u)) := by
  have hm : (t + 1) % 20 < 20 := Nat.mod_lt _ (by decide)
  have er : i_rem (w32 (D 64 4 + 1)) 20 = (((t + 1) % 20 : Nat) : Int) := by
    rw [h4, w32_idP (by omega) (by omega)]
    unfold i_rem
    rw [Int.tmod_eq_emod_of_nonneg (by omega)]
    omega
  have f0 : ∀ v : Int, (cpR (up D 64 4 v) (69 + 3 * (((t + 1) % 20 : Nat) : Int)) 46) 64 0 = u := fun v => by
    rw [cpR_ne (by omega) (by omega) (by omega), up_ni (by decide), h0]
  rw [n29, h29_0, er, if_pos (by decide), if_pos (inb_t (by omega) (by omega)), fz65 _ hm, if_neg (by omega), if_pos (kd65 _ hm), c94e d _ hm, cK9]
  show Rn (d + 1) 29 32 [some (2, 64), some (2, 46), some (2, 69 + 3 * (((t + 1) % 20 : Nat) : Int))] [] (Sg xs n (cpR (up D 64 4 (((t + 1) % 20 : Nat) : Int)) (69 + 3 * (((t + 1) % 20 : Nat) : Int)) 46)) = _
  rw [h29_32, f0, w32_idP (by omega) (by omega), c323, cK0, pR0, h29_44, h29_47]
  unfold reC
  have e : min ((u : Int) + 1) 20 = ((min (u + 1) 20 : Nat) : Int) := by omega
  rw [e]
def shQ (D : Sto) (k : Int) : Sto := fun z j => if 144 ≤ z ∧ z ≤ 153 ∧ 3 ≤ j ∧ j < 3 + k then D z (j + 1) else if (z = 154 ∨ z = 155) ∧ 24 ≤ j ∧ j < 24 + 8 * k then D z (j + 8) else D z j
theorem shQ_s {k : Int} (hk : 0 ≤ k) : cpQ (shQ D k) (3 + k) (4 + k) = shQ D (k + 1) := by
  funext z j
  unfold cpQ shQ
  by_cases a : 144 ≤ z ∧ z ≤ 153
  · by_cases b : j = 3 + k
    · rw [if_pos ⟨a.1, a.2, b⟩, if_neg (by omega), if_neg (by omega), if_pos (by omega), b]
      congr 1
      omega
    · rw [if_neg (by omega), if_neg (by omega)]
      by_cases c : 3 ≤ j ∧ j < 3 + k
      · rw [if_pos (by omega), if_pos (by omega)]
      · rw [if_neg (by omega), if_neg (by omega), if_neg (by omega), if_neg (by omega)]
  · rw [if_neg (by omega)]
    by_cases b : (z = 154 ∨ z = 155)
    · by_cases c : 8 * (3 + k) ≤ j ∧ j < 8 * (3 + k) + 8
      · rw [if_pos ⟨b, c⟩, if_neg (by omega), if_neg (by omega), if_neg (by omega), if_pos (by omega)]
        congr 1
        omega
      · by_cases e : 24 ≤ j ∧ j < 24 + 8 * k
        · rw [if_neg (by omega), if_neg (by omega), if_pos ⟨b, e⟩, if_neg (by omega), if_pos (by omega)]
        · rw [if_neg (by omega), if_neg (by omega), if_neg (by omega), if_neg (by omega), if_neg (by omega)]
    · rw [if_neg (by omega), if_neg (by omega), if_neg (by omega), if_neg (by omega), if_neg (by omega)]
def kpQ (D : Sto) (u : Nat) : Sto := if u < 20 then up (cpQ D (3 + (u : Int)) 0) 129 43 ((u : Int) + 1) else up (cpQ (up (shQ D 19) 129 43 19) 22 0) 129 43 20
theorem c259 (d u : Nat) (hu : u ≤ 20) (h : D 129 43 = u) : den (d + 2) 259 [(2, 129)] (Sg xs n D) = some ((9, 0), Sg xs n (kpQ D u)) := by
  have c0 : ∀ (E : Sto) (a b : Int), cpQ E a b 129 43 = E 129 43 := fun E a b => cpQ_ne (by omega) (by omega)
  have s0 : ∀ k : Int, shQ D k 129 43 = D 129 43 := fun k => by
    unfold shQ
    rw [if_neg (by omega), if_neg (by omega)]
  rw [n259, h259_0, h]
  unfold kpQ
  by_cases q : u < 20
  · rw [if_pos (by omega), if_pos q, h259_45, h, w32_idP (z := 3 + (u : Int)) (by omega) (by omega), c229 d _ 0 (by omega) (by omega) (by omega), cK9]
    show Rn (d + 1) 259 56 [some (2, 129), none] [] (Sg xs n (cpQ D (3 + (u : Int)) 0)) = _
    rw [h259_56, c0, h, w32_idP (by omega) (by omega)]
  · have eu : u = 20 := by omega
    rw [if_neg (by omega), if_neg q]
    have e0 : Sg xs n D = Sg xs n (shQ D ((0 : Nat) : Int)) := by
      congr 1
      funext z j
      unfold shQ
      rw [if_neg (by omega), if_neg (by omega)]
    have st : Rn (d + 1) 259 11 [some (2, 129), some (0, 1)] [] (Sg xs n D) = Rn (d + 1) 259 11 [some (2, 129), some (0, ((19 : Nat) : Int) + 1)] [] (Sg xs n (shQ D ((19 : Nat) : Int))) := by
      rw [e0]
      refine (Rn_iter (fun k => [some (2, 129), some (0, (k : Int) + 1)]) (fun k => Sg xs n (shQ D (k : Int))) 19 (fun k hk => ?_))
      have w1' : w32 (w32 (3 + ((k : Int) + 1)) - 1) = 3 + k := by rw [w32_idP (z := 3 + ((k : Int) + 1)) (by omega) (by omega), w32_idP (by omega) (by omega)]; omega
      have w2 : w32 (3 + ((k : Int) + 1)) = 4 + k := by rw [w32_idP (by omega) (by omega)]; omega
      rw [h259_11, if_neg (by omega), w1', w2, c229 d _ _ (by omega) (by omega) (by omega), cK9, shQ_s (by omega)]
      show Rn (d + 1) 259 29 [some (2, 129), some (0, (k : Int) + 1)] [] (Sg xs n (shQ D ((k : Int) + 1))) = _
      rw [h259_29, w32_idP (by omega) (by omega)]
      rfl
    rw [st, show (((19 : Nat) : Int)) = 19 from rfl, h259_11, if_pos (by omega), s0, h, eu]
    have w19 : w32 (((20 : Nat) : Int) - 1) = 19 := by rw [w32_idP (by omega) (by omega)]; rfl
    have w22 : w32 (3 + (up (shQ D 19) 129 43 19) 129 43) = 22 := by rw [up_at, w32_idP (by omega) (by omega)]; rfl
    rw [w19, h259_45, w22, c229 d 22 0 (by omega) (by omega) (by omega), cK9]
    show Rn (d + 1) 259 56 [some (2, 129), none] [] (Sg xs n (cpQ (up (shQ D 19) 129 43 19) 22 0)) = _
    rw [h259_56, c0, up_at, w32_idP (by omega) (by omega)]
    rfl
theorem RunE_m {r s r' s' : Int} (h1 : ∀ j : Int, 2 ≤ j → j ≤ 11 → F r' j = D r j) (h1b : ∀ b : Nat, b < 8 → F (r' + 1) b = D (r + 1) b ∧ F (r' + 2) b = D (r + 2) b) (h2 : ∀ z : Int, 144 ≤ z → z ≤ 153 → F z s' = D z s) (h3 : ∀ z b : Int, z = 154 ∨ z = 155 → 0 ≤ b → b < 8 → F z (8 * s' + b) = D z (8 * s + b)) (h8 : nb ≤ 8) (R : RunE D nb r s) : RunE F nb r' s' := by
  obtain ⟨b1, f1⟩ := R
  constructor
  · intro b hb
    have := h1b b (by omega)
    rw [this.1, this.2, h3 154 b (by omega) (by omega) (by omega), h3 155 b (by omega) (by omega) (by omega)]
    exact b1 b hb
  · unfold RunF
    rw [h1 2 (by omega) (by omega), h1 3 (by omega) (by omega), h1 4 (by omega) (by omega), h1 5 (by omega) (by omega), h1 6 (by omega) (by omega), h1 7 (by omega) (by omega), h1 8 (by omega) (by omega), h1 9 (by omega) (by omega), h1 10 (by omega) (by omega), h1 11 (by omega) (by omega), h2 144 (by omega) (by omega), h2 145 (by omega) (by omega), h2 146 (by omega) (by omega), h2 147 (by omega) (by omega), h2 148 (by omega) (by omega), h2 149 (by omega) (by omega), h2 150 (by omega) (by omega), h2 151 (by omega) (by omega), h2 152 (by omega) (by omega), h2 153 (by omega) (by omega)]
    exact f1
end S91
