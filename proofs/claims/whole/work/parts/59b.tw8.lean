/-! Twins: notes, both calls -/
section T9
variable {xs : Int → Int} {n : Int × Int} {D F : Sto} {nb m : Nat}
theorem c52 (d q : Nat) (e b r : Int) (hr : r = 0 ∨ r = 1) (k1 : D 58 0 = q) : den (d + 1) 52 [(2, 58), (0, e), (0, b), (0, r)] (Sg xs n D) = if q < 24 then some ((0, (q : Int)), Sg xs n (noS D q e b r ((q + 1 : Nat) : Int))) else some ((0, -1), Sg xs n D) := by
  have hb : bit01 r = true := by
    obtain h | h := hr <;> (rw [h]; rfl)
  rw [n52, h52_0, k1]
  by_cases c1 : q < 24
  · rw [if_pos (by omega), if_pos c1, hb, Bool.and_true, inb_t (show (0 : Int) ≤ (q : Int) by omega) (show (q : Int) < 24 by omega), if_pos rfl, if_pos rfl, if_pos rfl, if_pos rfl, w1 (show q < 2147483647 by omega), wq c1]
    rfl
  · rw [if_neg (by omega), if_neg c1]
theorem c303 (d q : Nat) (e b r : Int) (hr : r = 0 ∨ r = 1) (hq : q ≤ 24) (H : RG D nb m) (k2 : D 129 64 = q) : den (d + 3) 303 [(2, 129), (0, e), (0, b), (0, r)] (Sg xs n D) = if ((0 ≤ e ∧ e < (m : Int)) ∧ (0 ≤ b ∧ b < (nb : Int)) ∧ ¬ D 137 e = b) ∧ q < 24 then some ((0, (q : Int)), Sg xs n (noR D q e b r ((q + 1 : Nat) : Int))) else some ((0, -1), Sg xs n (up D 129 0 0)) := by
  have hb : bit01 r = true := by
    obtain h | h := hr <;> (rw [h]; rfl)
  have hM : mrk (up D 129 0 0) D := mrk_v (by decide)
  have h64 : up D 129 0 0 129 64 = q := by
    rw [up_ni (by decide)]
    exact k2
  have h16 := H.2.2.2.1
  have hm := H.2.2.1
  rw [n303, h303_0, c266 d e b (by rw [hM.1, hm]; omega), cK0, pR0, h303_11, hM.1, hM.2.2.2.1, hm, H.1, bB_if, h64]
  by_cases hP : (0 ≤ e ∧ e < (m : Int)) ∧ (0 ≤ b ∧ b < (nb : Int)) ∧ ¬ D 137 e = b
  · rw [if_pos hP]
    by_cases c1 : q < 24
    · rw [if_pos (by omega), hb, Bool.and_true, inb_t (show (0 : Int) ≤ (q : Int) by omega) (show (q : Int) < 24 by omega), if_pos rfl, if_pos rfl, if_pos rfl, if_pos rfl, if_pos ⟨hP, c1⟩, w1 (show q < 2147483647 by omega), wq c1]
      rfl
    · rw [if_neg (by omega), h303_23, if_neg (fun w => c1 w.2)]
  · rw [if_neg hP, h303_23, if_neg (fun w => hP w.1)]
theorem tw_note (R : RelK D nb m) (d : Nat) (e b r : Int) (hr : r = 0 ∨ r = 1) : ∃ D2, (RelK D2 nb m ∧ simN D2 D) ∧ twin xs n (d + 40) 167 303 [(0, e), (0, b), (0, r)] D D2 := by
  have RK := R
  obtain ⟨q, q', ⟨⟨g1, g2, g3, g4⟩, _, _, _, ⟨_, _, _, _, n5, n6⟩, _⟩, K, _⟩ := R
  have h16 := g1.2.2.2.1
  have hm := g1.2.2.1
  have hnb := g1.1
  have hTU : (0 ≤ e ∧ e < (m : Int)) → D 32 e = D 137 e := by
    intro h
    have := (g3 e.toNat (by omega)).2
    rw [Int.toNat_of_nonneg h.1] at this
    exact this
  have e1 := c52 (xs := xs) (n := n) (d + 38) q e b r hr K.1
  have e8 := c8 (xs := xs) (n := n) (D := D) (d + 37) e b (by rw [hm]; omega)
  rw [hm, hnb] at e8
  by_cases h : ((0 ≤ e ∧ e < (m : Int)) ∧ (0 ≤ b ∧ b < (nb : Int)) ∧ ¬ D 137 e = b)
  · have h' : ((0 ≤ e ∧ e < (m : Int)) ∧ (0 ≤ b ∧ b < (nb : Int)) ∧ ¬ D 32 e = b) := ⟨h.1, h.2.1, by rw [hTU h.1]; exact h.2.2⟩
    have e2 : ∀ z E, den (d + 39) 52 [(2, 58), (0, e), (0, b), (0, r)] (Sg xs n D) = some ((0, z), Sg xs n E) → den (d + 40) 167 [(2, 1), (0, e), (0, b), (0, r)] (Sg xs n D) = some ((0, z), Sg xs n E) := by
      intro z E w
      rw [n167, h167_0, e8, cK0, pR0, h167_12, if_pos (by rw [bB_z]; exact fun y => y h'), w, cK0, pR0, h167_27]
    by_cases c1 : q < 24
    · rw [if_pos c1] at e1
      have e3 := c303 (xs := xs) (n := n) (D := noS D q e b r ((q + 1 : Nat) : Int)) (nb := nb) (m := m) (d + 37) q e b r hr n5.1 (by
        have f : ∀ z : Int, ¬ (z = 58 ∨ z = 59 ∨ z = 60 ∨ z = 61 ∨ z = 62) → noS D q e b r ((q + 1 : Nat) : Int) z = D z := fun z hz => funext (fun j => noS_ne hz)
        unfold RG
        rw [f 131 (by decide), f 136 (by decide), f 137 (by decide)]
        exact g2) (by rw [noS_ne (by decide)]; exact K.2.1)
      rw [noS_ne (z := 137) (by decide), if_pos ⟨h, c1⟩] at e3
      exact ⟨_, ⟨no_rel RK K n5 n6 h.1 h.2.1 c1, no_N⟩, _, _, e2 _ _ e1, e3⟩
    · rw [if_neg c1] at e1
      have e3 := c303 (xs := xs) (n := n) (D := D) (nb := nb) (m := m) (d + 37) q e b r hr n5.1 g2 K.2.1
      rw [if_neg (fun w => c1 w.2)] at e3
      exact ⟨_, ⟨RelK_sim RK sim_0, simN_of sim_0⟩, _, _, e2 _ _ e1, e3⟩
  · have h' : ¬ ((0 ≤ e ∧ e < (m : Int)) ∧ (0 ≤ b ∧ b < (nb : Int)) ∧ ¬ D 32 e = b) := fun w => h ⟨w.1, w.2.1, by rw [← hTU w.1]; exact w.2.2⟩
    have e3 := c303 (xs := xs) (n := n) (D := D) (nb := nb) (m := m) (d + 37) q e b r hr n5.1 g2 K.2.1
    rw [if_neg (fun w => h w.1)] at e3
    refine ⟨_, ⟨RelK_sim RK sim_0, simN_of sim_0⟩, D, -1, ?_, e3⟩
    rw [n167, h167_0, e8, cK0, pR0, h167_12, if_neg (by rw [bB_z]; exact fun y => y h')]
end T9
