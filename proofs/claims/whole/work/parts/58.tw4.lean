/-! Twins: strikes -/
def skS (D : Sto) (q c q1 : Int) : Sto := up (up D 62 q c) 58 0 q1
def skR (D : Sto) (q c q1 : Int) : Sto := up (up (up D 129 0 0) 172 q c) 129 64 q1
section T4
variable {xs : Int → Int} {n : Int × Int} {D F : Sto} {nb m : Nat} {q c q1 : Int}
theorem skS_62 (j : Int) : skS D q c q1 62 j = if j = q then c else D 62 j := by
  unfold skS
  rw [up_ne (by decide)]
  by_cases h : j = q
  · rw [h, up_at, if_pos rfl]
  · rw [up_ni h, if_neg h]
theorem skS_0 : skS D q c q1 58 0 = q1 := up_at
theorem skS_58 {j : Int} (h : ¬ j = 0) : skS D q c q1 58 j = D 58 j := by
  unfold skS
  rw [up_ni h, up_ne (by decide)]
theorem skS_ne {z j : Int} (h1 : ¬ z = 58) (h2 : ¬ z = 62) : skS D q c q1 z j = D z j := by
  unfold skS
  rw [up_ne h1, up_ne h2]
theorem skR_172 (j : Int) : skR D q c q1 172 j = if j = q then c else D 172 j := by
  unfold skR
  rw [up_ne (by decide)]
  by_cases h : j = q
  · rw [h, up_at, if_pos rfl]
  · rw [up_ni h, if_neg h, up_ne (by decide)]
theorem skR_64 : skR D q c q1 129 64 = q1 := up_at
theorem skR_129 {j : Int} (h : ¬ j = 64) (h2 : ¬ j = 0) : skR D q c q1 129 j = D 129 j := by
  unfold skR
  rw [up_ni h, up_ne (by decide), up_ni h2]
theorem skR_ne {z j : Int} (h1 : ¬ z = 129) (h2 : ¬ z = 172) : skR D q c q1 z j = D z j := by
  unfold skR
  rw [up_ne h1, up_ne h2, up_ne h1]
theorem sk_N : simN (skR (skS D q c q1) q c q1) D := by
  intro z j h1 h2
  unfold scr at h1
  unfold scN at h2
  by_cases e : z = 129
  · rw [e, skR_129 (by omega) (by omega), skS_ne (by decide) (by decide)]
  · rw [skR_ne e (by omega), skS_ne (by omega) (by omega)]
end T4
