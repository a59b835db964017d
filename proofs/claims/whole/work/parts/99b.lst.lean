/-! Text: the reference's list of words -/
def wSt : List Nat := [0, 6, 11, 17, 22, 28, 33, 38, 42, 46, 51, 56, 59, 63, 67, 72, 79, 84, 90, 95, 101, 106]
def wS (t : Nat) : Nat := wSt.getD t 0
def wM (t : Nat) : Nat := wS (t + 1) - wS t - 1
theorem wT : ∀ t : Fin 21, (∀ q : Fin 7, q.val < wM t.val → ¬ wb ((wS t.val + q.val : Nat) : Int) = 32) ∧ wb ((wS t.val + wM t.val : Nat) : Int) = 32 ∧ wS (t.val + 1) = wS t.val + wM t.val + 1 ∧ wS t.val + wM t.val < 106 ∧ wM t.val < 7 := by decide +kernel
def mtP (f : Int → Int) (st : Int) (len t : Nat) : Prop := len = wM t ∧ ∀ q : Nat, q < wM t → f (st + q) = wb ((wS t + q : Nat) : Int)
def mtB (f : Int → Int) (st : Int) (len t : Nat) : Bool := decide (len = wM t) && (List.range (wM t)).all (fun q => decide (f (st + (q : Int)) = wb ((wS t + q : Nat) : Int)))
theorem mt_iff {f : Int → Int} {st : Int} {len t : Nat} : mtB f st len t = true ↔ mtP f st len t := by
  unfold mtB mtP
  rw [Bool.and_eq_true, decide_eq_true_eq, List.all_eq_true]
  constructor
  · intro h
    exact ⟨h.1, fun q hq => by have := h.2 q (List.mem_range.mpr hq); rw [decide_eq_true_eq] at this; exact this⟩
  · intro h
    exact ⟨h.1, fun q hq => by rw [decide_eq_true_eq]; exact h.2 q (List.mem_range.mp hq)⟩
def wdF (f : Int → Int) (st : Int) (len : Nat) : Nat → Nat → Int
  | 0, _ => -1
  | r + 1, t => if mtB f st len t = true then (t : Int) else wdF f st len r (t + 1)
