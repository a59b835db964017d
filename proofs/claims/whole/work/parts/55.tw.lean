/-! Twins: a call of the class and the same call of the reference -/
/-- places that carry nothing from call to call (text aside) -/
def scr (z j : Int) : Prop := z = 38 ∨ z = 39 ∨ z = 45 ∨ (z = 40 ∧ j = 7) ∨ (49 ≤ z ∧ z ≤ 53) ∨ (55 ≤ z ∧ z ≤ 57) ∨ z = 63 ∨ (z = 58 ∧ 1 ≤ j ∧ j ≤ 3) ∨ (z = 129 ∧ (j = 0 ∨ j = 29 ∨ j = 47 ∨ j = 49 ∨ j = 55 ∨ j = 56)) ∨ z = 142 ∨ z = 143 ∨ (144 ≤ z ∧ z ≤ 153 ∧ j = 1) ∨ ((z = 154 ∨ z = 155) ∧ 8 ≤ j ∧ j < 16) ∨ (156 ≤ z ∧ z ≤ 168) ∨ z = 173 ∨ z = 174 ∨ z = 175
def scz (z : Int) : Prop := z = 38 ∨ z = 39 ∨ z = 45 ∨ z = 40 ∨ (49 ≤ z ∧ z ≤ 53) ∨ (55 ≤ z ∧ z ≤ 58) ∨ z = 63 ∨ z = 129 ∨ (142 ≤ z ∧ z ≤ 168) ∨ z = 173 ∨ z = 174 ∨ z = 175
def sim (F D : Sto) : Prop := ∀ z j : Int, ¬ scr z j → F z j = D z j
theorem sim_t {F G D : Sto} (h1 : sim F G) (h2 : sim G D) : sim F D := fun z j h => (h1 z j h).trans (h2 z j h)
theorem sim_r {D : Sto} : sim D D := fun _ _ _ => rfl
theorem sim_f {F D : Sto} (h : sim F D) (z : Int) (hz : ∀ j, ¬ scr z j) : F z = D z := funext (fun j => h z j (hz j))
/-- both calls are answered alike -/
def twin (xs : Int → Int) (n : Int × Int) (d mc mr : Nat) (as : List Vv) (D D2 : Sto) : Prop := ∃ (D1 : Sto) (a : Int), den d mc ((2, 1) :: as) (Sg xs n D) = some ((0, a), Sg xs n D1) ∧ den d mr ((2, 129) :: as) (Sg xs n D1) = some ((0, a), Sg xs n D2)
theorem ns (z : Int) (h : ¬ scz z) : ∀ j, ¬ scr z j := by
  intro j q
  unfold scz at h
  unfold scr at q
  omega
section TW
variable {xs : Int → Int} {n : Int × Int} {D F : Sto} {nb m q q' : Nat}
theorem sim_z (h : sim F D) (z : Int) (hz : ¬ scz z) : F z = D z := sim_f h z (ns z hz)
theorem sim_58 (h : sim F D) (j : Int) (hj : ¬ (1 ≤ j ∧ j ≤ 3)) : F 58 j = D 58 j := h 58 j (by unfold scr; omega)
theorem sim_129 (h : sim F D) (j : Int) (hj : ¬ (j = 0 ∨ j = 29 ∨ j = 47 ∨ j = 49 ∨ j = 55 ∨ j = 56)) : F 129 j = D 129 j := h 129 j (by unfold scr; omega)
theorem sim_bs (h : sim F D) (h45 : D 129 45 = 0) (c : Int) : rbs F m c = rbs D m c := by
  unfold rbs
  rw [sim_129 h 45 (by decide), h45, if_pos rfl, if_pos rfl, sim_z h 135 (by unfold scz; omega), sim_z h 136 (by unfold scz; omega), sim_z h 137 (by unfold scz; omega)]
theorem RelN_sim (R : RelN D nb m q q') (h : sim F D) : RelN F nb m q q' := by
  obtain ⟨⟨g1, g2, g3, g4⟩, hB, hS, h46, ⟨n1, n2, n3, n4, n5, n6⟩, n7, n8⟩ := R
  have h8 := g1.2.1
  have f : ∀ z : Int, ¬ scz z → F z = D z := sim_z h
  have e58 := sim_58 h
  have e129 := sim_129 h
  have hbs : ∀ c, rbs F m c = rbs D m c := sim_bs h n8
  refine ⟨⟨?_, ?_, ?_, ?_⟩, ?_, ?_, ?_, ⟨?_, ?_, ?_, n4, ?_, ?_⟩, ?_, ?_⟩
  · unfold EG
    rw [f 30 (by unfold scz; omega), f 31 (by unfold scz; omega), f 32 (by unfold scz; omega)]
    exact g1
  · unfold RG
    rw [f 131 (by unfold scz; omega), f 136 (by unfold scz; omega), f 137 (by unfold scz; omega)]
    exact g2
  · rw [f 31 (by unfold scz; omega), f 32 (by unfold scz; omega), f 136 (by unfold scz; omega), f 137 (by unfold scz; omega)]
    exact g3
  · rw [f 34 (by unfold scz; omega), f 137 (by unfold scz; omega)]
    exact g4
  · intro b hb
    rw [hbs, f 36 (by unfold scz; omega), f 137 (by unfold scz; omega)]
    exact hB b hb
  · intro b hb
    have := hS b hb
    unfold rsg at this ⊢
    rw [h46, if_neg (by omega)] at this
    rw [e129 46 (by decide), h46, if_neg (by omega), f 47 (by unfold scz; omega), h 154 _ (by unfold scr; omega)]
    exact this
  · rw [e129 46 (by decide)]
    exact h46
  · rw [e58 0 (by decide)]
    exact n1
  · unfold knC
    rw [e58 0 (by decide), e58 4 (by decide)]
    exact n2
  · unfold rkC
    rw [e129 64 (by decide), e129 65 (by decide)]
    exact n3
  · unfold NT
    rw [f 59 (by unfold scz; omega), f 60 (by unfold scz; omega), f 62 (by unfold scz; omega)]
    exact n5
  · rw [f 59 (by unfold scz; omega), f 60 (by unfold scz; omega), f 61 (by unfold scz; omega), f 62 (by unfold scz; omega), f 169 (by unfold scz; omega), f 170 (by unfold scz; omega), f 171 (by unfold scz; omega), f 172 (by unfold scz; omega)]
    exact n6
  · rw [f 135 (by unfold scz; omega)]
    exact n7
  · rw [e129 45 (by decide)]
    exact n8
theorem sim_tk : sim (tkS D) D := by
  intro z j h
  unfold scr at h
  exact tk_ne (by omega) (by omega)
theorem RN_of (hN : NE D D q q' nb m) : RN D q' nb m := by
  obtain ⟨n1, n2, n3, n4, ⟨n5, n6⟩, n7⟩ := hN
  refine ⟨by omega, fun k hk => ?_⟩
  obtain ⟨a1, a2⟩ := n6 k (by omega)
  obtain ⟨b1, b2, b3⟩ := n7 k (by omega)
  refine ⟨by omega, fun h => ?_⟩
  obtain ⟨c1, c2, c3⟩ := b3 (by omega)
  obtain ⟨d1, d2⟩ := a2 (by omega)
  rw [c1] at d1
  rw [c2] at d2
  exact ⟨d1, d2⟩
theorem RelN_RB (R : RelN D nb m q q') : RB D nb m := RB_of R.2.1 R.1.1.2.1 R.2.2.2.2.2.1
theorem sim_agN {G : Sto} (h : agN G D) (h46 : G 129 46 = D 129 46) : sim G D := by
  intro z j hz
  by_cases e : z = 129 ∧ j = 46
  · rw [e.1, e.2]
    exact h46
  · unfold scr at hz
    exact h z j (by omega) (by omega)
theorem sim_agQ {G : Sto} (h : agQ G D) (h46 : G 129 46 = D 129 46) : sim G D := by
  intro z j hz
  by_cases e : z = 129 ∧ j = 46
  · rw [e.1, e.2]
    exact h46
  · unfold scr at hz
    exact h z j (by omega) (by omega) (by omega)
theorem sim_0 {v : Int} : sim (up D 129 0 v) D := by
  intro z j hz
  unfold scr at hz
  by_cases e : z = 129
  · exact up_ni (by omega)
  · exact up_ne e
theorem tw_signs (R : RelN D nb m q q') (d : Nat) (c : Int) : ∃ D2, sim D2 D ∧ twin xs n (d + 40) 170 309 [(0, c)] D D2 := by
  have R' := R
  obtain ⟨⟨g1, g2, g3, g4⟩, hB, hS, h46, ⟨n1, n2, n3, n4, n5, n6⟩, n7, n8⟩ := R
  have e1 := c170 (xs := xs) (n := n) (d + 33) c n1 n2 n4 g1 n5
  by_cases h : 0 ≤ c ∧ c < (nb : Int)
  · have R1 := RelN_sim R' (sim_tk (D := D))
    have e2 := c309 (xs := xs) (n := n) (D := tkS D) (d + 31) c R1.2.2.2.2.1.2.2.1 R1.1.2.1 (RelN_RB R1) (RN_of R1.2.2.2.2.1)
    rw [if_pos h, if_pos h] at e1 e2
    have es := sg_eq R' c.toNat
    rw [Int.toNat_of_nonneg h.1] at es
    rw [← es] at e2
    refine ⟨_, ?_, tkS D, _, e1, e2⟩
    refine sim_t (sim_agN (D := up (tkS D) 129 0 0) ?_ ?_) (sim_t sim_0 sim_tk)
    · exact agN_v (Or.inl rfl) (agN_v (Or.inr rfl) (agN_v (Or.inl rfl) (agN_s q' _ (agN_z q'))))
    · rw [up_at, up_ni (by decide), R1.2.2.2.1]
  · have e2 := c309 (xs := xs) (n := n) (D := D) (d + 31) c n3 g2 (RelN_RB R') (RN_of R'.2.2.2.2.1)
    rw [if_neg h, if_neg h] at e1 e2
    exact ⟨_, sim_0, D, _, e1, e2⟩
end TW
