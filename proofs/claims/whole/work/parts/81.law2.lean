/-! Laws: a sum is worked out, class and reference -/
def evK (ks kv : Int) (nm : Int → Int) (st : List Int) : Option (List Int) := if ks = 0 then some (kv :: st) else if ks = 1 then some (nm kv :: st) else if kv = 260 then (match st with | y :: r => some (bB (y = 0) :: r) | [] => none) else (match st with | y :: x :: r => (opV kv x y).map (fun v => v :: r) | _ => none)
def evR (KS KV nm : Int → Int) (s : Int) : Nat → Option (List Int)
  | 0 => some []
  | i + 1 => (evR KS KV nm s i).bind (fun st => evK (KS (s + i)) (KV (s + i)) nm st)
def stkA (A : Int → Int) : Nat → List Int
  | 0 => []
  | h + 1 => A h :: stkA A h
theorem stk_ex {A B : Int → Int} : ∀ h, (∀ j : Nat, j < h → A j = B j) → stkA A h = stkA B h := by
  intro h
  induction h with
  | zero => intro _; rfl
  | succ h ih =>
    intro hj
    unfold stkA
    rw [hj h (by omega), ih (fun j hj' => hj j (by omega))]
theorem evR_n {KS KV nm : Int → Int} {s : Int} {i : Nat} (h : evR KS KV nm s i = none) : ∀ j, evR KS KV nm s (i + j) = none := by
  intro j
  induction j with
  | zero => exact h
  | succ j ih =>
    rw [show i + (j + 1) = (i + j) + 1 by omega]
    unfold evR
    rw [ih]
    rfl
theorem hgt_s {KS KV : Int → Int} {s : Int} {len : Nat} {q : Nat} (h : hgt KS KV s len = some q) : ∀ i, i ≤ len → ∃ p, hgt KS KV s i = some p := by
  intro i hi
  cases hh : hgt KS KV s i with
  | some p => exact ⟨p, rfl⟩
  | none =>
    exfalso
    have : ∀ j, hgt KS KV s (i + j) = none := by
      intro j
      induction j with
      | zero => exact hh
      | succ j ih =>
        rw [show i + (j + 1) = (i + j) + 1 by omega]
        unfold hgt
        rw [ih]
        rfl
    have t := this (len - i)
    rw [show i + (len - i) = len by omega, h] at t
    cases t
theorem hgt_le {KS KV : Int → Int} {s : Int} : ∀ i p, hgt KS KV s i = some p → p ≤ i := by
  intro i
  induction i with
  | zero => intro p h; unfold hgt at h; injection h with h; omega
  | succ i ih =>
    intro p h
    unfold hgt at h
    cases hh : hgt KS KV s i with
    | none => rw [hh] at h; cases h
    | some q =>
      rw [hh] at h
      have := ih q hh
      simp only [Option.bind_some, stH] at h
      (repeat' split at h) <;> first | (injection h with h; omega) | (cases h)
/-- a law's value, if it has one -/
def lawV (D : Sto) (nm : Int → Int) (k : Int) : Option Int := if D 138 k < D 139 k then (evR (D 140) (D 141) nm (D 138 k) (D 139 k - D 138 k).toNat).bind (fun st => st.head?) else none
def ofW (G D : Sto) : Prop := ∀ z j : Int, ¬ z = 45 → ¬ (z = 40 ∧ j = 7) → G z j = D z j
def ofV (G D : Sto) : Prop := ∀ z j : Int, ¬ z = 143 → ¬ (z = 129 ∧ j = 29) → G z j = D z j
theorem op_l {kv x y v : Int} (hx : inL x) (hy : inL y) (h : opV kv x y = some v) : inL v := by
  have b : ∀ (p : Prop) [Decidable p], inL (bB p) := fun p _ => by have := bB_01 p; constructor <;> omega
  have bn : ∀ z, bndV z = some v → inL v := by
    intro z hz
    by_cases q : inL z
    · rw [bnd_t q] at hz
      injection hz with hz
      rw [← hz]; exact q
    · rw [bnd_f q] at hz; cases hz
  unfold opV at h
  by_cases c1 : kv = 43
  · rw [if_pos c1] at h; exact bn _ h
  rw [if_neg c1] at h
  by_cases c2 : kv = 45
  · rw [if_pos c2] at h; exact bn _ h
  rw [if_neg c2] at h
  by_cases c3 : kv = 42
  · rw [if_pos c3] at h; exact bn _ h
  rw [if_neg c3] at h
  by_cases c4 : kv = 47
  · rw [if_pos c4] at h
    by_cases q : y = 0
    · rw [if_pos q] at h; cases h
    · rw [if_neg q] at h
      injection h with h
      rw [← h]; exact tdiv_l hx
  rw [if_neg c4] at h
  (repeat' split at h) <;> (injection h with h; rw [← h]; exact b _)
