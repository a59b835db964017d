/-! Twins: notes -/
def noS (D : Sto) (q e b r q1 : Int) : Sto := up (up (up (up (up D 59 q e) 60 q b) 61 q r) 62 q (-1)) 58 0 q1
def noR (D : Sto) (q e b r q1 : Int) : Sto := up (up (up (up (up (up D 129 0 0) 169 q e) 170 q b) 171 q r) 172 q (-1)) 129 64 q1
section T7
variable {xs : Int → Int} {n : Int × Int} {D F : Sto} {nb m : Nat} {q e b r q1 : Int}
theorem noS_59 (j : Int) : noS D q e b r q1 59 j = if j = q then e else D 59 j := by
  unfold noS
  rw [up_ne (by decide), up_ne (by decide), up_ne (by decide), up_ne (by decide)]
  by_cases h : j = q
  · rw [h, up_at, if_pos rfl]
  · rw [up_ni h, if_neg h]
theorem noS_60 (j : Int) : noS D q e b r q1 60 j = if j = q then b else D 60 j := by
  unfold noS
  rw [up_ne (by decide), up_ne (by decide), up_ne (by decide)]
  by_cases h : j = q
  · rw [h, up_at, if_pos rfl]
  · rw [up_ni h, if_neg h, up_ne (by decide)]
theorem noS_61 (j : Int) : noS D q e b r q1 61 j = if j = q then r else D 61 j := by
  unfold noS
  rw [up_ne (by decide), up_ne (by decide)]
  by_cases h : j = q
  · rw [h, up_at, if_pos rfl]
  · rw [up_ni h, if_neg h, up_ne (by decide), up_ne (by decide)]
theorem noS_62 (j : Int) : noS D q e b r q1 62 j = if j = q then -1 else D 62 j := by
  unfold noS
  rw [up_ne (by decide)]
  by_cases h : j = q
  · rw [h, up_at, if_pos rfl]
  · rw [up_ni h, if_neg h, up_ne (by decide), up_ne (by decide), up_ne (by decide)]
theorem noR_169 (j : Int) : noR D q e b r q1 169 j = if j = q then e else D 169 j := by
  unfold noR
  rw [up_ne (by decide), up_ne (by decide), up_ne (by decide), up_ne (by decide)]
  by_cases h : j = q
  · rw [h, up_at, if_pos rfl]
  · rw [up_ni h, if_neg h, up_ne (by decide)]
theorem noR_170 (j : Int) : noR D q e b r q1 170 j = if j = q then b else D 170 j := by
  unfold noR
  rw [up_ne (by decide), up_ne (by decide), up_ne (by decide)]
  by_cases h : j = q
  · rw [h, up_at, if_pos rfl]
  · rw [up_ni h, if_neg h, up_ne (by decide), up_ne (by decide)]
theorem noR_171 (j : Int) : noR D q e b r q1 171 j = if j = q then r else D 171 j := by
  unfold noR
  rw [up_ne (by decide), up_ne (by decide)]
  by_cases h : j = q
  · rw [h, up_at, if_pos rfl]
  · rw [up_ni h, if_neg h, up_ne (by decide), up_ne (by decide), up_ne (by decide)]
theorem noR_172 (j : Int) : noR D q e b r q1 172 j = if j = q then -1 else D 172 j := by
  unfold noR
  rw [up_ne (by decide)]
  by_cases h : j = q
  · rw [h, up_at, if_pos rfl]
  · rw [up_ni h, if_neg h, up_ne (by decide), up_ne (by decide), up_ne (by decide), up_ne (by decide)]
theorem noS_0 : noS D q e b r q1 58 0 = q1 := up_at
theorem noR_64 : noR D q e b r q1 129 64 = q1 := up_at
theorem noS_58 {j : Int} (h : ¬ j = 0) : noS D q e b r q1 58 j = D 58 j := by
  unfold noS
  rw [up_ni h, up_ne (by decide), up_ne (by decide), up_ne (by decide), up_ne (by decide)]
theorem noR_129 {j : Int} (h : ¬ j = 64) (h2 : ¬ j = 0) : noR D q e b r q1 129 j = D 129 j := by
  unfold noR
  rw [up_ni h, up_ne (by decide), up_ne (by decide), up_ne (by decide), up_ne (by decide), up_ni h2]
theorem noS_ne {z j : Int} (h : ¬ (z = 58 ∨ z = 59 ∨ z = 60 ∨ z = 61 ∨ z = 62)) : noS D q e b r q1 z j = D z j := by
  unfold noS
  rw [up_ne (by omega), up_ne (by omega), up_ne (by omega), up_ne (by omega), up_ne (by omega)]
theorem noR_ne {z j : Int} (h : ¬ (z = 129 ∨ z = 169 ∨ z = 170 ∨ z = 171 ∨ z = 172)) : noR D q e b r q1 z j = D z j := by
  unfold noR
  rw [up_ne (by omega), up_ne (by omega), up_ne (by omega), up_ne (by omega), up_ne (by omega), up_ne (by omega)]
theorem no_N : simN (noR (noS D q e b r q1) q e b r q1) D := by
  intro z j h1 h2
  unfold scr at h1
  unfold scN at h2
  by_cases y : z = 129
  · rw [y, noR_129 (by omega) (by omega), noS_ne (by decide)]
  · rw [noR_ne (by omega), noS_ne (by omega)]
end T7
section T8
variable {xs : Int → Int} {n : Int × Int} {D F : Sto} {nb m : Nat} {e b r : Int}
theorem no_rel {q : Nat} (R : RelK D nb m) (K : KN D q) (hT : NT D q nb m) (hE : ∀ k : Nat, k < q → D 62 k = D 172 k ∧ -1 ≤ D 172 k ∧ (D 62 k < 0 → D 59 k = D 169 k ∧ D 60 k = D 170 k ∧ D 61 k = D 171 k)) (h0 : 0 ≤ e ∧ e < (m : Int)) (h1 : 0 ≤ b ∧ b < (nb : Int)) (h2 : q < 24) : RelK (noR (noS D q e b r ((q + 1 : Nat) : Int)) q e b r ((q + 1 : Nat) : Int)) nb m := by
  obtain ⟨k1, k2, k3, k4, k5⟩ := K
  refine RelK_N (q := q + 1) R no_N ⟨?_, noR_64, ?_, ?_, ?_⟩ ⟨h2, ?_⟩ ?_
  · rw [noR_ne (by decide), noS_0]
  · rw [noR_ne (by decide), noS_58 (by decide), noR_129 (by decide) (by decide), noS_ne (by decide)]
    exact k3
  · rw [noR_ne (by decide), noS_58 (by decide)]
    exact k4
  · rw [noR_ne (by decide), noS_58 (by decide)]
    omega
  · intro k hk
    rw [noR_ne (z := 62) (by decide), noS_62, noR_ne (z := 59) (by decide), noS_59, noR_ne (z := 60) (by decide), noS_60]
    by_cases y : (k : Int) = (q : Int)
    · rw [if_pos y, if_pos y, if_pos y]
      exact ⟨by decide, fun _ => ⟨h0, h1⟩⟩
    · rw [if_neg y, if_neg y, if_neg y]
      exact hT.2 k (by omega)
  · intro k hk
    rw [noR_ne (z := 62) (by decide), noS_62, noR_ne (z := 59) (by decide), noS_59, noR_ne (z := 60) (by decide), noS_60, noR_ne (z := 61) (by decide), noS_61, noR_169, noR_170, noR_171, noR_172, noS_ne (z := 169) (by decide), noS_ne (z := 170) (by decide), noS_ne (z := 171) (by decide), noS_ne (z := 172) (by decide)]
    by_cases y : (k : Int) = (q : Int)
    · simp only [if_pos y]
      exact ⟨trivial, by decide, fun _ => ⟨trivial, trivial, trivial⟩⟩
    · simp only [if_neg y]
      exact hE k (by omega)
end T8
