/-! The class's marks are the reference's -/
theorem i_xor_z (a b : Int) : i_xor (i_xor a b) 0 = i_xor a b := by
  unfold i_xor
  rw [Int32.ofInt_toInt]
  show (_ ^^^ (0 : Int32)).toInt = _
  rw [Int32.xor_zero]
/-- the graph of the class (in D) beside the reference's (in E) -/
def GE (D E : Sto) (nb m : Nat) : Prop := EG D nb m ∧ RG E nb m ∧ (∀ k : Nat, k < m → D 31 k = E 136 k ∧ D 32 k = E 137 k) ∧ (∀ b : Nat, b < nb → D 34 b = cntE (E 137) b m)
def BE (bs : Int → Int) (E : Sto) (nb m : Nat) : Prop := ∀ b : Nat, b < nb → bs b = rbs E m b ∧ -1 ≤ rbs E m b ∧ rbs E m b < nb ∧ (0 < cntE (E 137) b m → 0 ≤ rbs E m b)
def SE (sg : Int → Int) (E : Sto) (nb : Nat) (s : Int) : Prop := ∀ b : Nat, b < nb → sg b = rsg E s b
section MK
variable {D E : Sto} {nb m : Nat} {sg bs : Int → Int} {s : Int}
theorem SE_i (h : SE sg E nb s) {b : Int} (h0 : 0 ≤ b) (h1 : b < nb) : sg b = rsg E s b := by
  have := h b.toNat (by omega)
  rw [Int.toNat_of_nonneg h0] at this
  exact this
theorem df_eq (hB : BE bs E nb m) (hS : SE sg E nb s) {b : Nat} (hb : b < nb) : diffS nb sg bs b = rdf E m s b := by
  obtain ⟨e, h1, h2, h3⟩ := hB b hb
  unfold diffS rdf
  rw [e, hS b hb]
  by_cases h : rbs E m b = -1
  · rw [if_neg (by omega), if_pos h]
  · rw [if_pos (by omega), if_neg h, SE_i hS (by omega) h2]
theorem aj_eq (hG : GE D E nb m) (hB : BE bs E nb m) (hS : SE sg E nb s) {e : Nat} (he : e < m) : adjS nb (D 31) (D 32) (D 34) sg bs e = raj E m s e := by
  obtain ⟨⟨hnb, h8, hm, h16, hE⟩, H, hF, hI⟩ := hG
  obtain ⟨⟨f1, f2⟩, f3, f4⟩ := hE e he
  obtain ⟨g1, g2⟩ := hF e he
  have hc : 0 < cntE (E 137) (E 137 e) m := cnt_pos m he rfl
  have hi := hI (E 137 e).toNat (by omega)
  have hb := hB (E 137 e).toNat (by omega)
  rw [Int.toNat_of_nonneg (by omega)] at hi hb
  obtain ⟨e0, h1, h2, h3⟩ := hb
  have h4 := h3 hc
  unfold adjS raj
  rw [g2, hi, e0, g1]
  by_cases h : cntE (E 137) (E 137 e) m < 2
  · rw [if_neg (by omega), if_pos h]
  · rw [if_pos (by omega), if_neg h, SE_i hS h4 h2, SE_i hS (by omega) (by omega)]
theorem mk_eq (hG : GE D E nb m) (hB : BE bs E nb m) (hS : SE sg E nb 0) {e b : Nat} (he : e < m) (hb : b < nb) : mkS nb (D 31) (D 32) (D 34) sg bs e b = rmk E m e b := by
  have hG' := hG
  obtain ⟨⟨hnb, h8, hm, h16, hE⟩, H, hF, hI⟩ := hG
  obtain ⟨⟨f1, f2⟩, f3, f4⟩ := hE e he
  obtain ⟨g1, g2⟩ := hF e he
  unfold mkS rmk rmb
  rw [df_eq hB hS hb, aj_eq hG' hB hS he, hI b hb, g1, SE_i hS (by omega) (by omega)]
  by_cases h : 1 < cntE (E 137) b m
  · rw [if_pos (by omega), if_pos h]
  · rw [if_neg (by omega), if_neg h, i_xor_z]
/-- what stands, in bits and in the reference's array -/
theorem std_eq {q : Nat} {st : Int → Int} (h1 : ∀ k : Nat, k < q → st k < 24 ∧ -1 ≤ st k) : ∀ k x (F : Sto), k ≤ q → (∀ j : Nat, j < q → F 172 j = st j) → (∀ j : Nat, x.testBit j = true ↔ j < q ∧ F 173 j = 0) → ∀ j : Nat, (stdI st x k).testBit j = true ↔ j < q ∧ stR F k 173 j = 0 := by
  intro k
  induction k with
  | zero => intro x F _ _ hx; exact hx
  | succ k ih =>
    intro x F hk hF hx
    obtain ⟨a1, a2⟩ := h1 k (by omega)
    have a3 := hF k (by omega)
    have a4 := hx k
    rw [show stR F (k + 1) = stR (if F 173 k = 0 ∧ ¬ F 172 k = -1 then up F 173 (F 172 k) 1 else F) k from rfl]
    unfold stdI
    by_cases c1 : x.testBit k = true ∧ ¬ st k < 0
    · have c2 := (a4.mp c1.1).2
      rw [if_pos c1, if_pos ⟨c2, by omega⟩]
      refine ih _ _ (by omega) ?_ ?_
      · intro j hj
        rw [up_ne (by decide)]
        exact hF j hj
      · intro j
        rw [Nat.testBit_xor, Nat.testBit_and, Nat.testBit_two_pow]
        have hj := hx j
        rw [a3]
        by_cases e : (st k).toNat = j
        · have e2 : st k = (j : Int) := by omega
          rw [e2, up_at]
          simp [e]
        · rw [up_ni (show ¬ (j : Int) = st k by omega)]
          simp [e]
          exact hj
    · rw [if_neg c1]
      by_cases c2 : F 173 k = 0
      · have c3 : x.testBit k = true := a4.mpr ⟨by omega, c2⟩
        have c4 : st k < 0 := Classical.byContradiction (fun c => c1 ⟨c3, c⟩)
        rw [if_neg (fun c => c.2 (by omega))]
        exact ih _ _ (by omega) hF hx
      · rw [if_neg (fun c => c2 c.1)]
        exact ih _ _ (by omega) hF hx
theorem anF_ex {p r : Nat → Bool} {a b : Nat} (h1 : ∀ k, k < a → k < b → p k = r k) (h2 : ∀ k, k < a → b ≤ k → p k = true) (h3 : ∀ k, k < b → a ≤ k → r k = true) : anF p 0 a = anF r 0 b := by
  apply Bool.eq_iff_iff.mpr
  rw [anF_iff, anF_iff]
  constructor
  · intro h k _ hk
    by_cases c : k < a
    · rw [← h1 k c (by omega)]
      exact h k (by omega) (by omega)
    · exact h3 k (by omega) (by omega)
  · intro h k _ hk
    by_cases c : k < b
    · rw [h1 k (by omega) c]
      exact h k (by omega) (by omega)
    · exact h2 k (by omega) (by omega)
theorem bitP_ex {p r : Nat → Bool} : ∀ k, (∀ j, j < k → p j = r j) → bitP p k = bitP r k := by
  intro k
  induction k with
  | zero => intro _; rfl
  | succ k ih =>
    intro h
    unfold bitP
    rw [ih (fun j hj => h j (by omega)), h k (by omega)]
theorem tb_all (q j : Nat) : (2 ^ q - 1).testBit j = true ↔ j < q := by
  rw [Nat.testBit_two_pow_sub_one]
  simp
theorem zrK_at {D : Sto} : ∀ k (j : Nat), j < k → zrK D k 173 j = 0 := by
  intro k
  induction k with
  | zero => intro j h; omega
  | succ k ih =>
    intro j h
    show up (zrK D k) 173 k 0 173 j = 0
    by_cases e : j = k
    · rw [e, up_at]
    · rw [up_ni (by omega)]
      exact ih j (by omega)
end MK
