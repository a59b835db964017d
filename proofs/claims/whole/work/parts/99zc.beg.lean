/-! Text: how the reading begins -/
def clS (C : Sto) : Sto := up (up (up (up (up (up (up (up (up (up (up (up (up (up (up (up (up (up C 9 0 0) 9 1 0) 19 0 0) 19 6 0) 22 0 0) 23 0 0) 22 1 0) 23 1 0) 22 2 0) 23 2 0) 5 5 0) 5 6 10) 5 7 0) 5 8 0) 5 9 0) 5 10 0) 5 11 0) 5 12 0
def nuS (R : Sto) : Sto := up (up (up (up (up (up (up R 131 7 0) 131 8 0) 131 9 0) 131 10 10) 131 11 0) 131 12 0) 131 13 0
def ruS (R : Sto) : Sto := up (up (up (up (up (up R 138 3 0) 139 3 0) 138 4 0) 139 4 0) 138 5 0) 139 5 0
section S99zc
variable {xs : Int → Int} {n : Int × Int} {C C' R R' : Sto} {N : Int} {nb m i T d0 : Nat}
theorem e62 (d : Nat) : dcl xs n (d + 2) 62 [(2, 5)] C (9, 0) (clS C) := by
  intro R0
  have st : ∀ (F : Sto) (k : Int), 0 ≤ k → k < 3 → Rn d 36 12 [some (2, 19), some (0, k)] [] (Sg xs n (mix F R0)) = Rn d 36 12 [some (2, 19), some (0, k + 1)] [] (Sg xs n (mix (up (up F 22 k 0) 23 k 0) R0)) := by
    intro F k h0 h1
    rw [h36_12, if_neg (fun z => z h1), if_pos (inb_t h0 h1), if_pos (inb_t h0 h1), w32_idP (by omega) (by omega)]
    simp only [uc22, uc23]
  have e36 : ∀ F : Sto, den (d + 1) 36 [(2, 19)] (Sg xs n (mix F R0)) = some ((9, 0), Sg xs n (mix (up (up (up (up (up (up (up (up F 19 0 0) 19 6 0) 22 0 0) 23 0 0) 22 1 0) 23 1 0) 22 2 0) 23 2 0) R0)) := by
    intro F
    rw [n36, h36_0]
    simp only [uc19]
    rw [st _ 0 (by decide) (by decide), st _ (0 + 1) (by decide) (by decide), st _ (0 + 1 + 1) (by decide) (by decide), h36_12, if_pos (by decide)]
    rfl
  rw [n62, h62_0, n1, h1_0]
  simp only [uc9]
  rw [cK9, pRv, h62_7, e36, cK9, pRv, h62_14]
  simp only [uc5]
  rfl
theorem cl_f {z j : Int} (hz : ¬ (z = 5 ∨ z = 9 ∨ z = 19 ∨ z = 22 ∨ z = 23)) : clS C z j = C z j := by
  unfold clS
  rw [up_ne (by omega), up_ne (by omega), up_ne (by omega), up_ne (by omega), up_ne (by omega), up_ne (by omega), up_ne (by omega), up_ne (by omega), up_ne (by omega), up_ne (by omega), up_ne (by omega), up_ne (by omega), up_ne (by omega), up_ne (by omega), up_ne (by omega), up_ne (by omega), up_ne (by omega), up_ne (by omega)]
theorem cl_v : (clS C 9 0 = 0 ∧ clS C 9 1 = 0) ∧ (clS C 19 0 = 0 ∧ clS C 19 6 = 0) ∧ (clS C 22 0 = 0 ∧ clS C 22 1 = 0 ∧ clS C 22 2 = 0) ∧ (clS C 23 0 = 0 ∧ clS C 23 1 = 0 ∧ clS C 23 2 = 0) ∧ (clS C 5 5 = 0 ∧ clS C 5 6 = 10 ∧ clS C 5 7 = 0 ∧ clS C 5 8 = 0 ∧ clS C 5 9 = 0) ∧ (clS C 5 10 = 0 ∧ clS C 5 11 = 0 ∧ clS C 5 12 = 0) := ⟨⟨rfl, rfl⟩, ⟨rfl, rfl⟩, ⟨rfl, rfl, rfl⟩, ⟨rfl, rfl, rfl⟩, ⟨rfl, rfl, rfl, rfl, rfl⟩, ⟨rfl, rfl, rfl⟩⟩
theorem rr47 (e : Nat) (C0 F : Sto) {o1 : Option Vv} : Rn (e + 1) 219 47 [some (2, 129), o1, some (0, 0)] [] (Sg xs n (mix C0 F)) = Rn (e + 1) 219 77 [some (2, 129), none, some (0, 3)] [] (Sg xs n (mix C0 (nuS F))) := by
  have st : ∀ (F : Sto) (o1 : Option Vv) (k : Int), 0 ≤ k → k < 7 → Rn (e + 1) 219 47 [some (2, 129), o1, some (0, k)] [] (Sg xs n (mix C0 F)) = Rn (e + 1) 219 47 [some (2, 129), none, some (0, k + 1)] [] (Sg xs n (mix C0 (up F 131 (7 + k) (if k = 3 then 10 else 0)))) := by
    intro F o1 k h0 h1
    have fin : ∀ v : Int, Rn (e + 1) 219 66 [some (2, 129), none, some (0, k)] [(0, v), (0, k), (2, 129)] (Sg xs n (mix C0 F)) = Rn (e + 1) 219 47 [some (2, 129), none, some (0, k + 1)] [] (Sg xs n (mix C0 (up F 131 (7 + k) v))) := by
      intro v
      rw [h219_66, r201 e h0 h1 C0, cK9, pRv, h219_69, w32_idP (by omega) (by omega)]
    rw [h219_47, if_neg (fun z => z h1)]
    by_cases q : k = 3
    · rw [if_neg (fun z => z q), if_pos q]
      exact fin 10
    · rw [if_pos q, if_neg q]
      exact fin 0
  rw [st _ _ 0 (by decide) (by decide), st _ _ (0 + 1) (by decide) (by decide), st _ _ (0 + 1 + 1) (by decide) (by decide), st _ _ (0 + 1 + 1 + 1) (by decide) (by decide), st _ _ (0 + 1 + 1 + 1 + 1) (by decide) (by decide), st _ _ (0 + 1 + 1 + 1 + 1 + 1) (by decide) (by decide), st _ _ (0 + 1 + 1 + 1 + 1 + 1 + 1) (by decide) (by decide), h219_47, if_pos (by decide)]
  rfl
theorem rr77 (e : Nat) (C0 F : Sto) : Rn e 219 77 [some (2, 129), none, some (0, 3)] [] (Sg xs n (mix C0 F)) = Rn e 219 77 [some (2, 129), none, some (0, 6)] [] (Sg xs n (mix C0 (ruS F))) := by
  have st : ∀ (F : Sto) (k : Int), 3 ≤ k → k < 6 → Rn e 219 77 [some (2, 129), none, some (0, k)] [] (Sg xs n (mix C0 F)) = Rn e 219 77 [some (2, 129), none, some (0, k + 1)] [] (Sg xs n (mix C0 (up (up F 138 k 0) 139 k 0))) := by
    intro F k h0 h1
    rw [h219_77, if_neg (fun z => z h1), if_pos (inb_t (by omega) h1), if_pos (inb_t (by omega) h1), w32_idP (by omega) (by omega)]
    simp only [ur138, ur139]
  rw [st _ 3 (by decide) (by decide), st _ (3 + 1) (by decide) (by decide), st _ (3 + 1 + 1) (by decide) (by decide)]
  rfl
/-- the reference ahead of the first token -/
def rbS (R : Sto) (nn : Int) : Sto := up (up (up (up (ruS (nuS (up (up (up (up (up (up R 129 0 0) 129 16 nn) 129 2 0) 129 17 0) 129 21 0) 129 22 (-1)))) 129 14 0) 129 15 0) 129 25 0) 129 26 0
theorem BEGIN {L nn : Nat} (hL : C 3 1 = (L : Int)) (hL' : R 129 2 = (L : Int)) (h7 : L ≤ 700) (hn : nn ≤ L) (tp : ∀ j : Nat, j < L → C 4 j = R 130 j ∧ 0 ≤ R 130 j ∧ R 130 j < 256) (ok : ok20 C) : ∃ C1 R1 : Sto, (∀ R0 : Sto, den (d0 + 13) 69 [(2, 2), (0, (nn : Int))] (Sg xs n (mix C R0)) = Rn (d0 + 12) 69 27 [some (2, 2), some (0, (nn : Int)), some (0, ((0 : Nat) : Int))] [] (Sg xs n (mix C1 R0))) ∧ (∀ (e : Nat) (C0 : Sto), den (e + 4) 219 [(2, 129), (0, (nn : Int))] (Sg xs n (mix C0 R)) = Rn (e + 3) 219 127 [some (2, 129), none, some (0, 6)] [] (Sg xs n (mix C0 R1))) ∧ RTk (nn : Int) C1 R1 ∧ RX 0 0 0 0 C1 R1 ∧ R1 129 14 = ((0 : Nat) : Int) ∧ (C1 3 4 = -38 ∨ ((0 : Nat) : Int) < C1 3 3) ∧ fC0 C C1 ∧ fR0 (up (up R 129 0 0) 129 2 0) R1 := by
  generalize hC : up (up (clS (up (up C 2 2 0) 2 3 (-1))) 3 2 (nn : Int)) 3 3 0 = Ca
  generalize hR : rbS R (nn : Int) = Ra
  have cz : ∀ z : Int, ¬ (z = 2 ∨ z = 3 ∨ z = 5 ∨ z = 9 ∨ z = 19 ∨ z = 22 ∨ z = 23) → Ca z = C z := fun z hz => by
    funext j
    rw [← hC, up_ne (by omega), up_ne (by omega), cl_f (by omega), up_ne (by omega), up_ne (by omega)]
  have c3 : ∀ j : Int, ¬ (j = 2 ∨ j = 3) → Ca 3 j = C 3 j := fun j hj => by rw [← hC, up_ni (by omega), up_ni (by omega), cl_f (by decide), up_ne (by decide), up_ne (by decide)]
  have cs : ∀ z j : Int, (z = 5 ∨ z = 9 ∨ z = 19 ∨ z = 22 ∨ z = 23) → Ca z j = clS (up (up C 2 2 0) 2 3 (-1)) z j := fun z j hz => by rw [← hC, up_ne (by omega), up_ne (by omega)]
  have c2 : Ca 2 2 = 0 ∧ Ca 2 3 = -1 := by rw [← hC]; exact ⟨rfl, rfl⟩
  have c32 : Ca 3 2 = (nn : Int) ∧ Ca 3 3 = 0 := by rw [← hC]; exact ⟨rfl, rfl⟩
  have cv := cl_v (C := up (up C 2 2 0) 2 3 (-1))
  have r129 : Ra 129 16 = (nn : Int) ∧ Ra 129 17 = 0 ∧ Ra 129 21 = 0 ∧ Ra 129 22 = -1 ∧ Ra 129 14 = 0 ∧ Ra 129 15 = 0 ∧ Ra 129 25 = 0 ∧ Ra 129 26 = 0 := by
    rw [← hR]
    exact ⟨rfl, rfl, rfl, rfl, rfl, rfl, rfl, rfl⟩
  have r131 : Ra 131 7 = 0 ∧ Ra 131 8 = 0 ∧ Ra 131 9 = 0 ∧ Ra 131 10 = 10 ∧ Ra 131 11 = 0 ∧ Ra 131 12 = 0 ∧ Ra 131 13 = 0 := by
    rw [← hR]
    exact ⟨rfl, rfl, rfl, rfl, rfl, rfl, rfl⟩
  have r138 : (Ra 138 3 = 0 ∧ Ra 138 4 = 0 ∧ Ra 138 5 = 0) ∧ (Ra 139 3 = 0 ∧ Ra 139 4 = 0 ∧ Ra 139 5 = 0) := by
    rw [← hR]
    exact ⟨⟨rfl, rfl, rfl⟩, ⟨rfl, rfl, rfl⟩⟩
  have rz : ∀ z j : Int, ¬ (z = 129 ∨ z = 131 ∨ z = 138 ∨ z = 139) → Ra z j = R z j := fun z j hz => by
    rw [← hR]
    unfold rbS ruS nuS
    simp only [up_ne (show ¬ z = 129 by omega), up_ne (show ¬ z = 131 by omega), up_ne (show ¬ z = 138 by omega), up_ne (show ¬ z = 139 by omega)]
  have fra : fR0 (up (up R 129 0 0) 129 2 0) Ra := by
    intro z j hz
    by_cases q : z = 129 ∨ z = 131 ∨ z = 138 ∨ z = 139
    · rw [← hR]
      unfold rbS ruS nuS up
      obtain q | q | q | q := q
      · subst q
        simp only [show ¬ (129 : Int) = 131 by decide, show ¬ (129 : Int) = 138 by decide, show ¬ (129 : Int) = 139 by decide, false_and, if_false, true_and]
        rw [if_neg (by omega), if_neg (by omega), if_neg (by omega), if_neg (by omega), if_neg (by omega), if_neg (by omega), if_neg (by omega)]
        by_cases y : j = 2
        · rw [if_pos y, if_pos y]
        · rw [if_neg y, if_neg y, if_neg (by omega)]
      · subst q
        simp only [show ¬ (131 : Int) = 129 by decide, show ¬ (131 : Int) = 138 by decide, show ¬ (131 : Int) = 139 by decide, false_and, if_false, true_and]
        rw [if_neg (by omega), if_neg (by omega), if_neg (by omega), if_neg (by omega), if_neg (by omega), if_neg (by omega), if_neg (by omega)]
      · subst q
        simp only [show ¬ (138 : Int) = 129 by decide, show ¬ (138 : Int) = 131 by decide, show ¬ (138 : Int) = 139 by decide, false_and, if_false, true_and]
        rw [if_neg (by omega), if_neg (by omega), if_neg (by omega)]
      · subst q
        simp only [show ¬ (139 : Int) = 129 by decide, show ¬ (139 : Int) = 131 by decide, show ¬ (139 : Int) = 138 by decide, false_and, if_false, true_and]
        rw [if_neg (by omega), if_neg (by omega), if_neg (by omega)]
    · rw [rz z j q, up_ne (by omega), up_ne (by omega)]
  have X0 : RX 0 0 0 0 Ca Ra := by
    have bf : ∀ k : Nat, Nat.testBit 0 k = false := Nat.zero_testBit
    refine ⟨⟨r129.2.2.1, c2.1, c2.2, r129.2.2.2.1, r129.2.2.2.2.2.2.1⟩, ⟨⟨by rw [cs 9 0 (by decide)]; exact cv.1.1, r131.1, by decide, by rw [cs 9 1 (by decide)]; exact cv.1.2, r131.2.1, by decide⟩, fun b hb => absurd hb (Nat.not_lt_zero b), fun b hb => absurd hb (Nat.not_lt_zero b), fun b hb => absurd hb (Nat.not_lt_zero b)⟩, ?_, ?_⟩
    · refine ⟨⟨0, by rw [cs 5 5 (by decide)]; exact cv.2.2.2.2.1.1, r131.2.2.1, by decide⟩, ?_, ?_, ?_, ?_, ?_, fun k hk => ?_⟩
      · rw [cs 5 6 (by decide), cv.2.2.2.2.1.2.1, r131.2.2.2.1]
        decide
      · rw [cs 5 7 (by decide), cv.2.2.2.2.1.2.2.1, r131.2.2.2.2.1]
        decide
      · rw [cs 5 8 (by decide), cv.2.2.2.2.1.2.2.2.1, r131.2.2.2.2.2.1]
        decide
      · rw [cs 5 9 (by decide), cv.2.2.2.2.1.2.2.2.2, r129.2.2.2.2.2.1]
        exact ⟨rfl, rfl⟩
      · rw [cs 5 10 (by decide), cs 5 11 (by decide), cs 5 12 (by decide), cv.2.2.2.2.2.1, cv.2.2.2.2.2.2.1, cv.2.2.2.2.2.2.2, bf, bf, bf]
        exact ⟨rfl, rfl, rfl⟩
      · rw [bf, cs 22 k (by decide), cs 23 k (by decide)]
        have kk : k = 0 ∨ k = 1 ∨ k = 2 := by omega
        have e : clS (up (up C 2 2 0) 2 3 (-1)) 22 (k : Int) = 0 ∧ clS (up (up C 2 2 0) 2 3 (-1)) 23 (k : Int) = 0 := by
          obtain q | q | q := kk <;> subst q <;> exact ⟨rfl, rfl⟩
        rw [e.1, e.2]
        exact ⟨fun z => absurd z (by decide), fun z => absurd z (by decide)⟩
    · refine ⟨0, ⟨by rw [cs 19 0 (by decide)]; exact cv.2.1.1, r129.2.2.2.2.2.2.2, by decide, by rw [cs 19 6 (by decide)]; exact cv.2.1.2, r131.2.2.2.2.2.2⟩, fun t ht => absurd ht (Nat.not_lt_zero t), by unfold ok20; rw [cz 20 (by decide)]; exact ok, fun k hk => ?_⟩
      rw [cs 22 k (by decide), cs 23 k (by decide)]
      have kk : k = 0 ∨ k = 1 ∨ k = 2 := by omega
      have e : clS (up (up C 2 2 0) 2 3 (-1)) 22 (k : Int) = 0 ∧ clS (up (up C 2 2 0) 2 3 (-1)) 23 (k : Int) = 0 := by
        obtain q | q | q := kk <;> subst q <;> exact ⟨rfl, rfl⟩
      have e2 : Ra 138 (3 + (k : Int)) = 0 ∧ Ra 139 (3 + (k : Int)) = 0 := by
        obtain q | q | q := kk
        · subst q
          exact ⟨r138.1.1, r138.2.1⟩
        · subst q
          exact ⟨r138.1.2.1, r138.2.2.1⟩
        · subst q
          exact ⟨r138.1.2.2, r138.2.2.2⟩
      rw [e.1, e.2, e2.1, e2.2]
      exact ⟨⟨rfl, rfl⟩, 0, 0, rfl, rfl, by decide, by decide, fun z => absurd z (by decide)⟩
  have tp' : ∀ j : Int, 0 ≤ j → j < (nn : Int) → Ca 4 j = Ra 130 j ∧ 0 ≤ Ra 130 j ∧ Ra 130 j < 256 := fun j j0 j1 => by
    rw [cz 4 (by decide), rz 130 j (by decide)]
    have := tp j.toNat (by omega)
    rw [Int.toNat_of_nonneg j0] at this
    exact this
  obtain ⟨C1, R1, t1, t2, t3, t4, t5, t6⟩ := tok0 (xs := xs) (n := n) (C := Ca) (R := Ra) (N := (nn : Int)) 0 c32.1 r129.1 (by omega) c32.2 r129.2.1 (by decide) (by omega) tp'
  refine ⟨C1, R1, fun R0 => ?_, fun e C0 => ?_, t3, RX_tk t4 X0, by rw [t4.2.2.2 14 (by decide)]; exact r129.2.2.2.2.1, t5, fC0_t ?_ (fC0_tk t4), fR0_t fra (fR0_tk t4)⟩
  · have l31 : clS (up (up C 2 2 0) 2 3 (-1)) 3 1 = (L : Int) := by rw [cl_f (by decide), up_ne (by decide), up_ne (by decide)]; exact hL
    rw [n69, h69_0]
    simp only [uc2]
    rw [e62 (d0 + 10) R0, cK9, pRv, h69_17, n115, h115_0, c321, cK0]
    show cK (Rn (d0 + 11) 115 6 [some (2, 3), some (0, (nn : Int))] [(0, max (nn : Int) 0), (2, 3)] _) _ = _
    rw [h115_6]
    simp only [mc3]
    rw [l31, c323, cK0, show min (max (nn : Int) 0) (L : Int) = (nn : Int) by omega]
    show cK (Rn (d0 + 11) 115 13 [some (2, 3), some (0, (nn : Int))] [(0, (nn : Int)), (2, 3)] _) _ = _
    rw [h115_13]
    simp only [uc3]
    rw [hC, t1 (d0 + 8) R0, cK9, pRv, h115_25, cK9, pRv, h69_25]
    rfl
  · rw [n219, h219_0, if_neg (by omega)]
    simp only [mr129, ur129]
    rw [hL', if_pos (by omega), rr47 (e + 2), rr77, h219_77, if_pos (by decide)]
    simp only [ur129]
    have e0 : up (up (up (up (ruS (nuS (up (up (up (up (up (up R 129 0 0) 129 16 (nn : Int)) 129 2 0) 129 17 0) 129 21 0) 129 22 (-1)))) 129 14 0) 129 15 0) 129 25 0) 129 26 0 = Ra := hR
    rw [e0, t2 e C0, cK9, pRv]
  · intro z j hz
    by_cases q : z = 3
    · subst q
      exact c3 j (by omega)
    · rw [cz z (by omega)]
end S99zc
