/-! The first store: all of the relation but the limit -/
theorem R0_K : RelK (alS kM) 0 0 := ⟨0, 0, ⟨⟨⟨rfl, by decide, rfl, by decide, fun k hk => absurd hk (Nat.not_lt_zero k)⟩, ⟨rfl, by decide, rfl, by decide, fun k hk => absurd hk (Nat.not_lt_zero k)⟩, fun k hk => absurd hk (Nat.not_lt_zero k), fun k hk => absurd hk (Nat.not_lt_zero k)⟩, fun k hk => absurd hk (Nat.not_lt_zero k), fun k hk => absurd hk (Nat.not_lt_zero k), rfl, ⟨rfl, rfl, rfl, by decide, ⟨by decide, fun k hk => absurd hk (Nat.not_lt_zero k)⟩, fun k hk => absurd hk (Nat.not_lt_zero k)⟩, fun k hk => absurd hk (Nat.not_lt_zero k), rfl⟩, ⟨rfl, rfl, rfl, by decide +kernel, by decide +kernel⟩, fun k hk => absurd hk (Nat.not_lt_zero k)⟩
theorem R0_P : (alS kM 26 6 = 10 ∧ alS kM 131 3 = 0) ∧ (alS kM 26 7 = alS kM 131 4 ∧ 0 ≤ alS kM 131 4 ∧ alS kM 131 4 ≤ 100) ∧ alS kM 40 0 = alS kM 131 6 := ⟨⟨rfl, rfl⟩, ⟨rfl, by decide +kernel, by decide +kernel⟩, rfl⟩
theorem R0_L : LE (alS kM) := by
  have le : ∀ k : Nat, k < 3 → LE1 (alS kM) k := by
    intro k hk
    have kk : k = 0 ∨ k = 1 ∨ k = 2 := by omega
    have e : alS kM 138 k = 0 ∧ alS kM 139 k = 0 ∧ alS kM 43 k = 0 ∧ alS kM 44 k = 0 := by
      obtain q | q | q := kk <;> subst q <;> exact ⟨rfl, rfl, rfl, rfl⟩
    refine ⟨?_, ?_, fun i h1 h2 => ?_, fun h1 => ?_⟩
    · rw [e.1, e.2.1, e.2.2.1, e.2.2.2]
      exact ⟨rfl, rfl⟩
    · rw [e.1, e.2.1]
      decide
    · rw [e.1] at h1
      rw [e.2.1] at h2
      omega
    · rw [e.1, e.2.1] at h1
      exact absurd h1 (by decide)
  exact ⟨le 0 (by decide), le 1 (by decide), le 2 (by decide)⟩
theorem R0_R : RunE (alS kM) 0 46 0 := ⟨fun k hk => absurd hk (Nat.not_lt_zero k), ⟨rfl, by decide +kernel, by decide +kernel⟩, ⟨rfl, by decide +kernel, by decide +kernel⟩, ⟨rfl, by decide +kernel, Or.inr ⟨rfl, rfl⟩⟩, ⟨rfl, by decide +kernel, by decide +kernel⟩, ⟨rfl, by decide +kernel, by decide +kernel⟩, ⟨rfl, by decide +kernel, by decide +kernel⟩, ⟨rfl, rfl, rfl⟩, ⟨⟨by decide +kernel, by decide +kernel⟩, ⟨by decide +kernel, by decide +kernel⟩, ⟨by decide +kernel, by decide +kernel⟩⟩, ⟨rfl, by decide +kernel, by decide +kernel⟩⟩
theorem R0_H : HE (alS kM) 0 := ⟨0, 0, ⟨by decide, by decide, rfl, rfl, rfl⟩, fun k hk => absurd hk (Nat.not_lt_zero k), rfl, Or.inl rfl, fun z => absurd z (by decide +kernel)⟩
theorem R0_T : TE (alS kM) := ⟨0, ⟨rfl, rfl, by decide⟩, fun j hj => absurd hj (Nat.not_lt_zero j), rfl, rfl⟩
theorem R0_Z : ZE (alS kM) := ⟨rfl, by
  have h : ∀ k : Fin 64, okK0 (alS kM 20 ((k.val : Nat) : Int)) = true := by decide +kernel
  exact fun k hk => h ⟨k, hk⟩⟩
theorem R0_G : G2 (alS kM) 0 0 := fun k hk => absurd hk (Nat.not_lt_zero k)
