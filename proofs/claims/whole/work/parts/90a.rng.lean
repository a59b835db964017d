/-! The ring's places -/
section S90a
variable {xs : Int → Int} {n : Int × Int} {D : Sto}
theorem c94e (d k : Nat) (hk : k < 20) : den (d + 1) 94 [(2, 69 + 3 * (k : Int)), (2, 46)] (Sg xs n D) = some ((9, 0), Sg xs n (cpR D (69 + 3 * (k : Int)) 46)) := by
  have : k = 0 ∨ k = 1 ∨ k = 2 ∨ k = 3 ∨ k = 4 ∨ k = 5 ∨ k = 6 ∨ k = 7 ∨ k = 8 ∨ k = 9 ∨ k = 10 ∨ k = 11 ∨ k = 12 ∨ k = 13 ∨ k = 14 ∨ k = 15 ∨ k = 16 ∨ k = 17 ∨ k = 18 ∨ k = 19 := by omega
  obtain q | q | q | q | q | q | q | q | q | q | q | q | q | q | q | q | q | q | q | q := this
  · subst q; exact (n94e d 69 _).trans (h94e_0 d xs n D)
  · subst q; exact (n94e d 72 _).trans (h94e_1 d xs n D)
  · subst q; exact (n94e d 75 _).trans (h94e_2 d xs n D)
  · subst q; exact (n94e d 78 _).trans (h94e_3 d xs n D)
  · subst q; exact (n94e d 81 _).trans (h94e_4 d xs n D)
  · subst q; exact (n94e d 84 _).trans (h94e_5 d xs n D)
  · subst q; exact (n94e d 87 _).trans (h94e_6 d xs n D)
  · subst q; exact (n94e d 90 _).trans (h94e_7 d xs n D)
  · subst q; exact (n94e d 93 _).trans (h94e_8 d xs n D)
  · subst q; exact (n94e d 96 _).trans (h94e_9 d xs n D)
  · subst q; exact (n94e d 99 _).trans (h94e_10 d xs n D)
  · subst q; exact (n94e d 102 _).trans (h94e_11 d xs n D)
  · subst q; exact (n94e d 105 _).trans (h94e_12 d xs n D)
  · subst q; exact (n94e d 108 _).trans (h94e_13 d xs n D)
  · subst q; exact (n94e d 111 _).trans (h94e_14 d xs n D)
  · subst q; exact (n94e d 114 _).trans (h94e_15 d xs n D)
  · subst q; exact (n94e d 117 _).trans (h94e_16 d xs n D)
  · subst q; exact (n94e d 120 _).trans (h94e_17 d xs n D)
  · subst q; exact (n94e d 123 _).trans (h94e_18 d xs n D)
  · subst q; exact (n94e d 126 _).trans (h94e_19 d xs n D)
theorem c94b (d k : Nat) (hk : k < 20) : den (d + 1) 94 [(2, 46), (2, 69 + 3 * (k : Int))] (Sg xs n D) = some ((9, 0), Sg xs n (cpR D 46 (69 + 3 * (k : Int)))) := by
  have : k = 0 ∨ k = 1 ∨ k = 2 ∨ k = 3 ∨ k = 4 ∨ k = 5 ∨ k = 6 ∨ k = 7 ∨ k = 8 ∨ k = 9 ∨ k = 10 ∨ k = 11 ∨ k = 12 ∨ k = 13 ∨ k = 14 ∨ k = 15 ∨ k = 16 ∨ k = 17 ∨ k = 18 ∨ k = 19 := by omega
  obtain q | q | q | q | q | q | q | q | q | q | q | q | q | q | q | q | q | q | q | q := this
  · subst q; exact (n94b d 69 _).trans (h94b_0 d xs n D)
  · subst q; exact (n94b d 72 _).trans (h94b_1 d xs n D)
  · subst q; exact (n94b d 75 _).trans (h94b_2 d xs n D)
  · subst q; exact (n94b d 78 _).trans (h94b_3 d xs n D)
  · subst q; exact (n94b d 81 _).trans (h94b_4 d xs n D)
  · subst q; exact (n94b d 84 _).trans (h94b_5 d xs n D)
  · subst q; exact (n94b d 87 _).trans (h94b_6 d xs n D)
  · subst q; exact (n94b d 90 _).trans (h94b_7 d xs n D)
  · subst q; exact (n94b d 93 _).trans (h94b_8 d xs n D)
  · subst q; exact (n94b d 96 _).trans (h94b_9 d xs n D)
  · subst q; exact (n94b d 99 _).trans (h94b_10 d xs n D)
  · subst q; exact (n94b d 102 _).trans (h94b_11 d xs n D)
  · subst q; exact (n94b d 105 _).trans (h94b_12 d xs n D)
  · subst q; exact (n94b d 108 _).trans (h94b_13 d xs n D)
  · subst q; exact (n94b d 111 _).trans (h94b_14 d xs n D)
  · subst q; exact (n94b d 114 _).trans (h94b_15 d xs n D)
  · subst q; exact (n94b d 117 _).trans (h94b_16 d xs n D)
  · subst q; exact (n94b d 120 _).trans (h94b_17 d xs n D)
  · subst q; exact (n94b d 123 _).trans (h94b_18 d xs n D)
  · subst q; exact (n94b d 126 _).trans (h94b_19 d xs n D)
theorem fz65 (k : Nat) (hk : k < 20) : fz xs D 65 (k : Int) = 69 + 3 * (k : Int) := by
  have : k = 0 ∨ k = 1 ∨ k = 2 ∨ k = 3 ∨ k = 4 ∨ k = 5 ∨ k = 6 ∨ k = 7 ∨ k = 8 ∨ k = 9 ∨ k = 10 ∨ k = 11 ∨ k = 12 ∨ k = 13 ∨ k = 14 ∨ k = 15 ∨ k = 16 ∨ k = 17 ∨ k = 18 ∨ k = 19 := by omega
  obtain q | q | q | q | q | q | q | q | q | q | q | q | q | q | q | q | q | q | q | q := this
  · subst q; exact rfl
  · subst q; exact rfl
  · subst q; exact rfl
  · subst q; exact rfl
  · subst q; exact rfl
  · subst q; exact rfl
  · subst q; exact rfl
  · subst q; exact rfl
  · subst q; exact rfl
  · subst q; exact rfl
  · subst q; exact rfl
  · subst q; exact rfl
  · subst q; exact rfl
  · subst q; exact rfl
  · subst q; exact rfl
  · subst q; exact rfl
  · subst q; exact rfl
  · subst q; exact rfl
  · subst q; exact rfl
  · subst q; exact rfl
theorem kd65 (k : Nat) (hk : k < 20) : kd (Sg xs n D) (69 + 3 * (k : Int)) = 6 := by
  have : k = 0 ∨ k = 1 ∨ k = 2 ∨ k = 3 ∨ k = 4 ∨ k = 5 ∨ k = 6 ∨ k = 7 ∨ k = 8 ∨ k = 9 ∨ k = 10 ∨ k = 11 ∨ k = 12 ∨ k = 13 ∨ k = 14 ∨ k = 15 ∨ k = 16 ∨ k = 17 ∨ k = 18 ∨ k = 19 := by omega
  obtain q | q | q | q | q | q | q | q | q | q | q | q | q | q | q | q | q | q | q | q := this
  · subst q; exact rfl
  · subst q; exact rfl
  · subst q; exact rfl
  · subst q; exact rfl
  · subst q; exact rfl
  · subst q; exact rfl
  · subst q; exact rfl
  · subst q; exact rfl
  · subst q; exact rfl
  · subst q; exact rfl
  · subst q; exact rfl
  · subst q; exact rfl
  · subst q; exact rfl
  · subst q; exact rfl
  · subst q; exact rfl
  · subst q; exact rfl
  · subst q; exact rfl
  · subst q; exact rfl
  · subst q; exact rfl
  · subst q; exact rfl
end S90a
