/-! Twins: strikes, the call -/
section T5
variable {xs : Int → Int} {n : Int × Int} {D F : Sto} {nb m : Nat}
theorem sk_rel {q : Nat} {c : Int} (R : RelK D nb m) (K : KN D q) (hT : NT D q nb m) (hE : ∀ k : Nat, k < q → D 62 k = D 172 k ∧ -1 ≤ D 172 k ∧ (D 62 k < 0 → D 59 k = D 169 k ∧ D 60 k = D 170 k ∧ D 61 k = D 171 k)) (h0 : 0 ≤ c) (h1 : c < (q : Int)) (h2 : q < 24) : RelK (skR (skS D q c ((q + 1 : Nat) : Int)) q c ((q + 1 : Nat) : Int)) nb m := by
  obtain ⟨k1, k2, k3, k4, k5⟩ := K
  refine RelK_N (q := q + 1) R sk_N ⟨?_, skR_64, ?_, ?_, ?_⟩ ⟨h2, ?_⟩ ?_
  · rw [skR_ne (by decide) (by decide), skS_0]
  · rw [skR_ne (by decide) (by decide), skS_58 (by decide), skR_129 (by decide) (by decide), skS_ne (by decide) (by decide)]
    exact k3
  · rw [skR_ne (by decide) (by decide), skS_58 (by decide)]
    exact k4
  · rw [skR_ne (by decide) (by decide), skS_58 (by decide)]
    omega
  · intro k hk
    rw [skR_ne (z := 62) (by decide) (by decide), skS_62, skR_ne (z := 59) (by decide) (by decide), skS_ne (z := 59) (by decide) (by decide), skR_ne (z := 60) (by decide) (by decide), skS_ne (z := 60) (by decide) (by decide)]
    by_cases e : (k : Int) = (q : Int)
    · rw [if_pos e]
      exact ⟨by omega, fun w => by omega⟩
    · rw [if_neg e]
      exact hT.2 k (by omega)
  · intro k hk
    rw [skR_172, skR_ne (z := 62) (by decide) (by decide), skS_62, skR_ne (z := 59) (by decide) (by decide), skS_ne (z := 59) (by decide) (by decide), skR_ne (z := 60) (by decide) (by decide), skS_ne (z := 60) (by decide) (by decide), skR_ne (z := 61) (by decide) (by decide), skS_ne (z := 61) (by decide) (by decide), skR_ne (z := 169) (by decide) (by decide), skS_ne (z := 169) (by decide) (by decide), skR_ne (z := 170) (by decide) (by decide), skS_ne (z := 170) (by decide) (by decide), skR_ne (z := 171) (by decide) (by decide), skS_ne (z := 171) (by decide) (by decide), skS_ne (z := 172) (by decide) (by decide)]
    by_cases e : (k : Int) = (q : Int)
    · rw [if_pos e, if_pos e]
      exact ⟨rfl, by omega, fun w => by omega⟩
    · rw [if_neg e, if_neg e]
      exact hE k (by omega)
end T5
