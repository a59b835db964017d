/-! Twins: notes, strikes, what is known -/
def scN (z j : Int) : Prop := z = 59 ∨ z = 60 ∨ z = 61 ∨ z = 62 ∨ z = 169 ∨ z = 170 ∨ z = 171 ∨ z = 172 ∨ z = 58 ∨ (z = 129 ∧ (j = 64 ∨ j = 65))
def simN (F D : Sto) : Prop := ∀ z j : Int, ¬ scr z j → ¬ scN z j → F z j = D z j
section T3
variable {xs : Int → Int} {n : Int × Int} {D F : Sto} {nb m q q' : Nat}
theorem RelK_N (R : RelK D nb m) (h : simN F D) (K : KN F q) (hT : NT F q nb m) (hE : ∀ k : Nat, k < q → F 62 k = F 172 k ∧ -1 ≤ F 172 k ∧ (F 62 k < 0 → F 59 k = F 169 k ∧ F 60 k = F 170 k ∧ F 61 k = F 171 k)) : RelK F nb m := by
  obtain ⟨p, p', ⟨⟨g1, g2, g3, g4⟩, hB, hS, h46, _, n7, n8⟩, _, s⟩ := R
  have h8 := g1.2.1
  have f : ∀ z : Int, ¬ scz z → ¬ (z = 59 ∨ z = 60 ∨ z = 61 ∨ z = 62 ∨ z = 169 ∨ z = 170 ∨ z = 171 ∨ z = 172) → F z = D z := fun z hz h2 => funext (fun j => h z j (ns z hz j) (by unfold scz at hz; unfold scN; omega))
  have e129 : ∀ j : Int, ¬ (j = 0 ∨ j = 29 ∨ j = 47 ∨ j = 49 ∨ j = 55 ∨ j = 56 ∨ j = 64 ∨ j = 65) → F 129 j = D 129 j := fun j hj => h 129 j (by unfold scr; omega) (by unfold scN; omega)
  have hbs : ∀ c, rbs F m c = rbs D m c := by
    intro c
    unfold rbs
    rw [e129 45 (by decide), n8, if_pos rfl, if_pos rfl, f 135 (by unfold scz; omega) (by decide), f 136 (by unfold scz; omega) (by decide), f 137 (by unfold scz; omega) (by decide)]
  obtain ⟨q', k1, k2, k3⟩ := kn_of K
  refine ⟨q, q', ⟨⟨?_, ?_, ?_, ?_⟩, ?_, ?_, ?_, ⟨K.1, k1, k2, k3, hT, hE⟩, ?_, ?_⟩, K, ?_⟩
  · unfold EG
    rw [f 30 (by unfold scz; omega) (by decide), f 31 (by unfold scz; omega) (by decide), f 32 (by unfold scz; omega) (by decide)]
    exact g1
  · unfold RG
    rw [f 131 (by unfold scz; omega) (by decide), f 136 (by unfold scz; omega) (by decide), f 137 (by unfold scz; omega) (by decide)]
    exact g2
  · rw [f 31 (by unfold scz; omega) (by decide), f 32 (by unfold scz; omega) (by decide), f 136 (by unfold scz; omega) (by decide), f 137 (by unfold scz; omega) (by decide)]
    exact g3
  · rw [f 34 (by unfold scz; omega) (by decide), f 137 (by unfold scz; omega) (by decide)]
    exact g4
  · intro b hb
    rw [hbs, f 36 (by unfold scz; omega) (by decide), f 137 (by unfold scz; omega) (by decide)]
    exact hB b hb
  · intro b hb
    have := hS b hb
    unfold rsg at this ⊢
    rw [h46, if_neg (by omega)] at this
    rw [e129 46 (by decide), h46, if_neg (by omega), f 47 (by unfold scz; omega) (by decide), h 154 _ (by unfold scr; omega) (by unfold scN; omega)]
    exact this
  · rw [e129 46 (by decide)]
    exact h46
  · rw [f 135 (by unfold scz; omega) (by decide)]
    exact n7
  · rw [e129 45 (by decide)]
    exact n8
  · rw [f 47 (by unfold scz; omega) (by decide)]
    exact s
theorem simN_of (h : sim F D) : simN F D := fun z j h1 _ => h z j h1
theorem tw_known (R : RelK D nb m) (d : Nat) (c : Int) : ∃ D2, (RelK D2 nb m ∧ simN D2 D) ∧ twin xs n (d + 40) 169 305 [(0, c)] D D2 := by
  have RK := R
  obtain ⟨q, q', ⟨⟨g1, g2, g3, g4⟩, hB, hS, h46, ⟨n1, n2, n3, n4, n5, n6⟩, n7, n8⟩, K, s⟩ := R
  obtain ⟨k1, k2, k3, k4, k5⟩ := K
  have hr : ret01 169 0 = true ∧ ret01 169 1 = true := ⟨rfl, rfl⟩
  by_cases h : -1 ≤ c ∧ c ≤ (q : Int)
  · refine ⟨up (up (up D 58 4 c) 129 0 0) 129 65 c, ?_, up D 58 4 c, 1, ?_, ?_⟩
    · have hS : simN (up (up (up D 58 4 c) 129 0 0) 129 65 c) D := by
        intro z j h1 h2
        unfold scr at h1
        unfold scN at h2
        have e1 : ¬ (z = 129 ∧ j = 65) := by omega
        have e2 : ¬ (z = 129 ∧ j = 0) := by omega
        have e3 : ¬ (z = 58 ∧ j = 4) := by omega
        simp [up, e1, e2, e3]
      refine ⟨RelK_N (q := q) RK hS ?_ ?_ ?_, hS⟩
      · refine ⟨?_, ?_, ?_, ?_, ?_⟩ <;> simp [up] <;> omega
      · unfold NT
        simp only [up_ne (show ¬ (62 : Int) = 129 by decide), up_ne (show ¬ (62 : Int) = 58 by decide), up_ne (show ¬ (59 : Int) = 129 by decide), up_ne (show ¬ (59 : Int) = 58 by decide), up_ne (show ¬ (60 : Int) = 129 by decide), up_ne (show ¬ (60 : Int) = 58 by decide)]
        exact n5
      · have ez : ∀ z j : Int, ¬ z = 129 → ¬ z = 58 → (up (up (up D 58 4 c) 129 0 0) 129 65 c) z j = D z j := fun z j h1 h2 => by rw [up_ne h1, up_ne h1, up_ne h2]
        intro k hk
        rw [ez 62 _ (by decide) (by decide), ez 172 _ (by decide) (by decide), ez 59 _ (by decide) (by decide), ez 169 _ (by decide) (by decide), ez 60 _ (by decide) (by decide), ez 170 _ (by decide) (by decide), ez 61 _ (by decide) (by decide), ez 171 _ (by decide) (by decide)]
        exact n6 k hk
    · rw [n169, h169_0, n54, h54_0, c179, cK0, pR0, h54_9, k1, if_pos (by simp [bB, h]), cK0, pR0, h169_8, if_pos hr.2]
    · have e : (up D 58 4 c) 129 64 = q := by rw [up_ne (by decide)]; exact k2
      rw [n305, h305_0, e, if_neg (by omega), if_pos (by omega)]
  · refine ⟨up D 129 0 0, ⟨RelK_sim RK sim_0, simN_of sim_0⟩, D, 0, ?_, ?_⟩
    · rw [n169, h169_0, n54, h54_0, c179, cK0, pR0, h54_9, k1, if_neg (by simp [bB, h]), cK0, pR0, h169_8, if_pos hr.1]
    · rw [n305, h305_0, k2, h305_18]
      (repeat' split) <;> first | rfl | (exfalso; omega)
end T3
