/-! The check of a large method, cut in pieces -/
def mzip (m : Nat) : List (List Nat × (Nat × List Nat × IR)) := (hns.getD m []).zip (tabs.getD m [])
def mrest (m : Nat) : Bool := decide (mL m ≤ 40) && (plainName (mY m).cls && (decide ((hns.getD m []).length = (tabs.getD m []).length) && goodWord (mcode m)))
theorem mk_cut {α : Type} {P : α → Bool} {l : List α} {k n : Nat} (h1 : ((l.drop k).take n).all P = true) (h2 : (l.drop (k + n)).all P = true) : (l.drop k).all P = true := by
  rw [← List.take_append_drop n (l.drop k), List.all_append, h1, List.drop_drop, h2]
  rfl
theorem mk_end {α : Type} {P : α → Bool} {l : List α} {k : Nat} (h : l.length = k) : (l.drop k).all P = true := by
  rw [← h, List.drop_length]
  rfl
theorem mk_join {m : Nat} (h1 : mrest m = true) (h2 : ((mzip m).drop 0).all (fun q => eOk m q.1 q.2) = true) : mOk m = true := by
  rw [List.drop_zero] at h2
  unfold mrest at h1
  unfold mzip at h2
  simp only [Bool.and_eq_true] at h1
  unfold mOk
  simp only [Bool.and_eq_true]
  exact ⟨h1.1, h1.2.1, h2, h1.2.2.1, h1.2.2.2⟩
