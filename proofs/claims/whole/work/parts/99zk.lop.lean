/-! The law: all calls of a script -/
section S99zk
variable {xs : Int → Int}
theorem LAWLOOP (d : Nat) (N : Int) (hN : xs (-1) = N) (h0 : 0 ≤ N) (h1 : N ≤ 100000) (hx : ∀ j : Int, 0 ≤ j → j < N → xs j < 2147483648) : ∀ (r : Nat) (i : Int) (n : Int × Int) (D : Sto), Rel D → 0 ≤ i → i ≤ N + 6 → N ≤ i + 6 * r + 5 → ∃ (n' : Int × Int) (D' : Sto), Rel D' ∧ n'.1 = n.1 ∧ n.2 ≤ n'.2 ∧ n'.2 ≤ n.2 + 8 * r ∧ Rn (d + 200) 326 23 [some (2, (-1)), some (2, 1), some (2, 129), some (2, 175), some (0, i), none, none] [] (Sg xs n D) = some ((0, 1), Sg xs n' D') := by
  intro r
  induction r with
  | zero =>
    intro i n D R i0 iN hr
    refine ⟨n, D, R, rfl, Int.le_refl _, by omega, ?_⟩
    rw [h326_23, hN, w32_idP (by omega) (by omega), if_pos (by omega)]
  | succ r ih =>
    intro i n D R i0 iN hr
    by_cases q : N - 6 < i
    · refine ⟨n, D, R, rfl, Int.le_refl _, by omega, ?_⟩
      rw [h326_23, hN, w32_idP (by omega) (by omega), if_pos q]
    · have fin : ∀ X : Option (Vv × Stt), (∃ (n' : Int × Int) (D' : Sto), Rel D' ∧ okCt n n' ∧ X = Rn (d + 200) 326 1522 [some (2, (-1)), some (2, 1), some (2, 129), some (2, 175), some (0, i), none, none] [] (Sg xs n' D')) → ∃ (n' : Int × Int) (D' : Sto), Rel D' ∧ n'.1 = n.1 ∧ n.2 ≤ n'.2 ∧ n'.2 ≤ n.2 + 8 * ((r + 1 : Nat) : Int) ∧ X = some ((0, 1), Sg xs n' D') := by
        intro X h
        obtain ⟨n1, D1, R1, ⟨o1, o2, o3⟩, e⟩ := h
        obtain ⟨n2, D2, R2, p1, p2, p3, e2⟩ := ih (i + 6) n1 D1 R1 (by omega) (by omega) (by omega)
        refine ⟨n2, D2, R2, p1.trans o1, by omega, by omega, ?_⟩
        rw [e, h326_1522, w32_idP (by omega) (by omega)]
        exact e2
      have a1 : w32 (i + 1) = i + 1 ∧ inb (i + 1) (xs (-1)) = true := ⟨w32_idP (by omega) (by omega), by rw [hN]; exact inb_t (by omega) (by omega)⟩
      have a2 : w32 (i + 2) = i + 2 ∧ inb (i + 2) (xs (-1)) = true := ⟨w32_idP (by omega) (by omega), by rw [hN]; exact inb_t (by omega) (by omega)⟩
      have a3 : w32 (i + 3) = i + 3 ∧ inb (i + 3) (xs (-1)) = true := ⟨w32_idP (by omega) (by omega), by rw [hN]; exact inb_t (by omega) (by omega)⟩
      have a4 : w32 (i + 4) = i + 4 ∧ inb (i + 4) (xs (-1)) = true := ⟨w32_idP (by omega) (by omega), by rw [hN]; exact inb_t (by omega) (by omega)⟩
      have a5 : w32 (i + 5) = i + 5 ∧ inb (i + 5) (xs (-1)) = true := ⟨w32_idP (by omega) (by omega), by rw [hN]; exact inb_t (by omega) (by omega)⟩
      have ii : inb i (xs (-1)) = true := by rw [hN]; exact inb_t i0 (by omega)
      have wN : w32 (xs (-1) - 6) = N - 6 := by rw [hN]; exact w32_idP (by omega) (by omega)
      rw [h326_23, wN, if_neg q, if_pos ii]
      refine fin _ ?_
      clear fin
      by_cases c0 : i_and (xs i) 63 = 0
      · rw [if_pos c0]
        exact cs0 R d a1.1 a1.2 a2.1 a2.2 a3.1 a3.2 a4.1 a4.2 a5.1 a5.2
      rw [if_neg c0]
      clear c0
      by_cases c1 : i_and (xs i) 63 = 1
      · rw [if_pos c1]
        exact cs1 R d a1.1 a1.2
      rw [if_neg c1]
      clear c1
      by_cases c2 : i_and (xs i) 63 = 2
      · rw [if_pos c2]
        exact cs2 R d a1.1 a1.2
      rw [if_neg c2]
      clear c2
      by_cases c3 : i_and (xs i) 63 = 3
      · rw [if_pos c3]
        exact cs3 R d a1.1 a1.2
      rw [if_neg c3]
      clear c3
      by_cases c4 : i_and (xs i) 63 = 4
      · rw [if_pos c4]
        exact cs4 R d a1.1 a1.2 a2.1 a2.2
      rw [if_neg c4]
      clear c4
      by_cases c5 : i_and (xs i) 63 = 5
      · rw [if_pos c5]
        exact cs5 R d a1.1 a1.2 a2.1 a2.2
      rw [if_neg c5]
      clear c5
      by_cases c6 : i_and (xs i) 63 = 6
      · rw [if_pos c6]
        exact cs6 R d a1.1 a1.2
      rw [if_neg c6]
      clear c6
      by_cases c7 : i_and (xs i) 63 = 7
      · rw [if_pos c7]
        exact cs7 R d a1.1 a1.2
      rw [if_neg c7]
      clear c7
      by_cases c8 : i_and (xs i) 63 = 8
      · rw [if_pos c8]
        exact cs8 R d a1.1 a1.2 a2.1 a2.2
      rw [if_neg c8]
      clear c8
      by_cases c9 : i_and (xs i) 63 = 9
      · rw [if_pos c9]
        exact cs9 R d a1.1 a1.2
      rw [if_neg c9]
      clear c9
      by_cases c10 : i_and (xs i) 63 = 10
      · rw [if_pos c10]
        exact cs10 R d a1.1 a1.2
      rw [if_neg c10]
      clear c10
      by_cases c11 : i_and (xs i) 63 = 11
      · rw [if_pos c11]
        exact cs11 R d a1.1 a1.2 a2.1 a2.2
      rw [if_neg c11]
      clear c11
      by_cases c12 : i_and (xs i) 63 = 12
      · rw [if_pos c12]
        exact cs12 R d a1.1 a1.2
      rw [if_neg c12]
      clear c12
      by_cases c13 : i_and (xs i) 63 = 13
      · rw [if_pos c13]
        exact cs13 R d a1.1 a1.2 a2.1 a2.2
      rw [if_neg c13]
      clear c13
      by_cases c14 : i_and (xs i) 63 = 14
      · rw [if_pos c14]
        exact cs14 R d a1.1 a1.2
      rw [if_neg c14]
      clear c14
      by_cases c15 : i_and (xs i) 63 = 15
      · rw [if_pos c15]
        exact cs15 R d a1.1 a1.2 a2.1 a2.2
      rw [if_neg c15]
      clear c15
      by_cases c16 : i_and (xs i) 63 = 16
      · rw [if_pos c16]
        exact cs16 R d a1.1 a1.2 a2.1 a2.2
      rw [if_neg c16]
      clear c16
      by_cases c17 : i_and (xs i) 63 = 17
      · rw [if_pos c17]
        exact cs17 R d a1.1 a1.2 a2.1 a2.2
      rw [if_neg c17]
      clear c17
      by_cases c18 : i_and (xs i) 63 = 18
      · rw [if_pos c18]
        exact cs18 R d a1.1 a1.2 a2.1 a2.2
      rw [if_neg c18]
      clear c18
      by_cases c19 : i_and (xs i) 63 = 19
      · rw [if_pos c19]
        exact cs19 R d a1.1 a1.2
      rw [if_neg c19]
      clear c19
      by_cases c20 : i_and (xs i) 63 = 20
      · rw [if_pos c20]
        exact cs20 R d a1.1 a1.2
      rw [if_neg c20]
      clear c20
      by_cases c21 : i_and (xs i) 63 = 21
      · rw [if_pos c21]
        exact cs21 R d 
      rw [if_neg c21]
      clear c21
      by_cases c22 : i_and (xs i) 63 = 22
      · rw [if_pos c22]
        exact cs22 R d a1.1 a1.2
      rw [if_neg c22]
      clear c22
      by_cases c23 : i_and (xs i) 63 = 23
      · rw [if_pos c23]
        exact cs23 R d a1.1 a1.2 a2.1 a2.2
      rw [if_neg c23]
      clear c23
      by_cases c24 : i_and (xs i) 63 = 24
      · rw [if_pos c24]
        exact cs24 R d a1.1 a1.2
      rw [if_neg c24]
      clear c24
      by_cases c25 : i_and (xs i) 63 = 25
      · rw [if_pos c25]
        exact cs25 R d a1.1 a1.2
      rw [if_neg c25]
      clear c25
      by_cases c26 : i_and (xs i) 63 = 26
      · rw [if_pos c26]
        exact cs26 R d a1.1 a1.2 a2.1 a2.2 a3.1 a3.2
      rw [if_neg c26]
      clear c26
      by_cases c27 : i_and (xs i) 63 = 27
      · rw [if_pos c27]
        exact cs27 R d a1.1 a1.2 a2.1 a2.2
      rw [if_neg c27]
      clear c27
      by_cases c28 : i_and (xs i) 63 = 28
      · rw [if_pos c28]
        exact cs28 R d a1.1 a1.2 a2.1 a2.2
      rw [if_neg c28]
      clear c28
      by_cases c29 : i_and (xs i) 63 = 29
      · rw [if_pos c29]
        exact cs29 R d 
      rw [if_neg c29]
      clear c29
      by_cases c30 : i_and (xs i) 63 = 30
      · rw [if_pos c30]
        exact cs30 R d a1.1 a1.2 a2.1 a2.2 a3.1 a3.2
      rw [if_neg c30]
      clear c30
      by_cases c31 : i_and (xs i) 63 = 31
      · rw [if_pos c31]
        exact cs31 R d a1.1 a1.2
      rw [if_neg c31]
      clear c31
      by_cases c32 : i_and (xs i) 63 = 32
      · rw [if_pos c32]
        exact cs32 R d a1.1 a1.2
      rw [if_neg c32]
      clear c32
      by_cases c33 : i_and (xs i) 63 = 33
      · rw [if_pos c33]
        exact cs33 R d a1.1 a1.2
      rw [if_neg c33]
      clear c33
      by_cases c34 : i_and (xs i) 63 = 34
      · rw [if_pos c34]
        exact cs34 R d a1.1 a1.2 a2.1 a2.2
      rw [if_neg c34]
      clear c34
      by_cases c35 : i_and (xs i) 63 = 35
      · rw [if_pos c35]
        exact cs35 R d a1.1 a1.2 a2.1 a2.2 (hx (i + 1) (by omega) (by omega))
      rw [if_neg c35]
      clear c35
      by_cases c36 : i_and (xs i) 63 = 36
      · rw [if_pos c36]
        exact cs36 R d a1.1 a1.2 a2.1 a2.2 a3.1 a3.2
      rw [if_neg c36]
      clear c36
      by_cases c37 : i_and (xs i) 63 = 37
      · rw [if_pos c37]
        exact cs37 R d 
      rw [if_neg c37]
      clear c37
      by_cases c38 : i_and (xs i) 63 = 38
      · rw [if_pos c38]
        exact cs38 R d 
      rw [if_neg c38]
      clear c38
      by_cases c39 : i_and (xs i) 63 = 39
      · rw [if_pos c39]
        exact cs39 R d 
      rw [if_neg c39]
      clear c39
      by_cases c40 : i_and (xs i) 63 = 40
      · rw [if_pos c40]
        exact cs40 R d a1.1 a1.2
      rw [if_neg c40]
      clear c40
      exact ⟨n, D, R, okCr, rfl⟩
end S99zk
