/-! The first store is in the relation; every script -/
theorem Rel_0 : Rel (alS kM) := ⟨0, 0, R0_K, R0_G, ⟨fun k hk => absurd hk (Nat.not_lt_zero k), ⟨⟨by rw [R0_P.1.1]; decide, by rw [R0_P.1.1]; decide⟩, Or.inl rfl⟩, R0_P.2.1, R0_P.2.2⟩, R0_L, R0_R, R0_H, R0_T, R0_Z⟩
theorem LAW {xs : Int → Int} (d : Nat) (N : Int) (hN : xs (-1) = N) (h0 : 0 ≤ N) (h1 : N ≤ 3072) (hx : ∀ j : Int, 0 ≤ j → j < N → xs j < 2147483648) : ∃ (n' : Int × Int) (D' : Sto), n'.1 = 175 ∧ n'.2 ≤ 12000 ∧ den (d + 201) 326 [(2, (-1))] (Sp xs 0 0 []) = some ((0, 1), Sg xs n' D') := by
  obtain ⟨n', D', _, p1, p2, p3, e⟩ := LAWLOOP (xs := xs) d N hN h0 (by omega) hx 512 0 (175, 7782) (alS kM) Rel_0 (by decide) (by omega) (by omega)
  refine ⟨n', D', p1, ?_, ?_⟩
  · have : ((175, 7782) : Int × Int).2 = 7782 := rfl
    omega
  · rw [HEAD]
    exact e
