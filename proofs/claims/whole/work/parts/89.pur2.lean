/-! Steps: what they read, what they leave alone -/
def sP (F D : Sto) (m : Nat) : Prop := F 131 = D 131 ∧ F 134 = D 134 ∧ rbs F m = rbs D m ∧ F 136 = D 136 ∧ F 137 = D 137 ∧ lawV F = lawV D
section S89
variable {F D : Sto} {nb m : Nat} {sg : Int → Int} {w tb bn : Int}
theorem dfP_D (h : sP F D m) : dfP F m = dfP D m := by
  funext sg b
  unfold dfP
  rw [h.2.2.1]
theorem ajP_D (h : sP F D m) : ajP F m = ajP D m := by
  funext sg e
  unfold ajP
  rw [h.2.2.1, h.2.2.2.1, h.2.2.2.2.1]
theorem wkP_D (h : sP F D m) : wkP F = wkP D := by
  funext w tb b
  unfold wkP
  rw [h.2.1]
theorem nmP_D (h : sP F D m) : nmP F m = nmP D m := by
  funext w tb p b k
  unfold nmP
  rw [wkP_D h, h.2.2.2.1]
theorem lwP_D (h : sP F D m) : lwP F m = lwP D m := by
  funext w tb r p b
  unfold lwP
  rw [nmP_D h, h.2.2.2.2.2]
theorem ouP_D (h : sP F D m) : ouP F m = ouP D m := by
  funext w tb p b
  unfold ouP
  rw [lwP_D h, wkP_D h]
theorem mkP_D (h : sP F D m) : mkP F m = mkP D m := by
  funext sg p b
  unfold mkP
  rw [dfP_D h, h.2.2.2.2.1]
theorem e1P_D (h : sP F D m) : e1P F m = e1P D m := by
  funext sg p b
  unfold e1P
  rw [mkP_D h]
theorem e2P_D (h : sP F D m) : e2P F m = e2P D m := by
  funext w tb p b
  unfold e2P
  rw [ouP_D h]
theorem enP_D (h : sP F D m) : enP F m = enP D m := by
  funext sg w tb p b
  unfold enP
  rw [e2P_D h, e1P_D h]
theorem juP_D (h : sP F D m) : juP F = juP D := by
  funext w bn p
  unfold juP
  rw [h.1]
theorem laP_D (h : sP F D m) : laP F nb m = laP D nb m := by
  funext w tb bn p
  unfold laP
  rw [lwP_D h]
theorem tuP_D (h : sP F D m) : tuP F m = tuP D m := by
  funext w tb p
  unfold tuP
  rw [lwP_D h, h.2.2.2.1]
theorem moP_D (h : sP F D m) : moP F nb m = moP D nb m := by
  funext sg w tb bn p
  unfold moP
  rw [h.2.2.2.1, h.2.2.2.2.1, tuP_D h, ajP_D h, juP_D h, laP_D h, enP_D h]
theorem stP_D (h : sP F D m) : stP F nb m = stP D nb m := by
  funext sg w tb bn p
  unfold stP
  rw [moP_D h]
theorem itP_D (h : sP F D m) (k : Nat) (p : PSt) : itP F nb m sg w tb bn k p = itP D nb m sg w tb bn k p := by
  induction k generalizing p with
  | zero => rfl
  | succ k ih =>
    show itP F nb m sg w tb bn k (stP F nb m sg w tb bn p) = itP D nb m sg w tb bn k (stP D nb m sg w tb bn p)
    rw [stP_D h, ih]
theorem enP_2 (p : PSt) (b : Int) : (enP D m sg w tb p b).1 2 = p.1 2 := by
  unfold enP
  split
  · rfl
  · rfl
theorem juP_2 (p : PSt) : (juP D w bn p).2.1 2 = p.1 2 := by
  unfold juP
  split
  · rfl
  · split
    · rfl
    · split
      · rfl
      · rfl
theorem laP_2 (p : PSt) : (laP D nb m w tb bn p).2.1 2 = p.1 2 := by
  unfold laP
  cases lwP D m w tb 2 p (p.1 4) with
  | some v => rfl
  | none =>
    show (if bn = 0 then ((nb : Int) - 1, p) else (nnP (p.1 11) / 65536 % nb, drP p)).2.1 2 = p.1 2
    split <;> rfl
theorem moP_2 (p : PSt) : (moP D nb m sg w tb bn p).1 2 = p.1 2 := by
  unfold moP
  split
  · rfl
  · show (if (juP D w bn (u1 p.1 6 (ajP D m sg (nthE (D 136) (fun z => z) (p.1 4) m m (tuP D m w tb p))), p.2)).1 = true then _ else _ : PSt).1 2 = p.1 2
    split
    · rw [enP_2, laP_2]
      show (juP D w bn (u1 p.1 6 (ajP D m sg (nthE (D 136) (fun z => z) (p.1 4) m m (tuP D m w tb p))), p.2)).2.1 2 = p.1 2
      rw [juP_2]
      rfl
    · rw [enP_2, juP_2]
      rfl
/-- the bounds of a run, blocks or none -/
def PBd (nb : Nat) (p : PSt) : Prop := (0 ≤ p.1 2 ∧ p.1 2 < 2 ^ nb) ∧ (0 ≤ p.1 4 ∧ (p.1 4 < nb ∨ (nb = 0 ∧ p.1 4 = 0))) ∧ (0 ≤ p.1 5 ∧ p.1 5 < 256) ∧ (0 ≤ p.1 6 ∧ p.1 6 < 256) ∧ (0 ≤ p.1 7 ∧ p.1 7 ≤ 999999) ∧ (in32 (p.1 8) ∧ in32 (p.1 9) ∧ in32 (p.1 10)) ∧ (0 ≤ p.1 11 ∧ p.1 11 < 2147483648) ∧ (∀ b : Nat, b < nb → 0 ≤ p.2 b ∧ p.2 b ≤ 9999)
theorem pw256 (h8 : nb ≤ 8) : (2 : Int) ^ nb ≤ 256 := by
  have : (2 : Nat) ^ nb ≤ 2 ^ 8 := Nat.pow_le_pow_right (by decide) h8
  have e : (2 : Int) ^ nb = ((2 ^ nb : Nat) : Int) := by simp
  rw [e]
  omega
theorem PBd_I {p : PSt} (B : PBd nb p) (h8 : nb ≤ 8) (h0 : 0 < nb) (h3 : 0 ≤ p.1 3 ∧ p.1 3 ≤ 1000000) : PI nb p := by
  obtain ⟨b1, b2, b3, b4, b5, b6, b7, b8'⟩ := B
  have := pw256 h8
  exact ⟨⟨b1.1, by omega⟩, h3, ⟨b2.1, by omega⟩, b3, b4, b5, b6, b7, b8'⟩
theorem PI_B {p q : PSt} (B : PBd nb p) (I : PI nb q) (h2 : q.1 2 = p.1 2) : PBd nb q := by
  obtain ⟨p1, p2, p3, p4, p5, p6, p7, p8', p9⟩ := I
  refine ⟨?_, ⟨p3.1, Or.inl p3.2⟩, p4, p5, p6, p7, p8', p9⟩
  rw [h2]
  exact B.1
theorem stP_3 (p : PSt) (h : 0 ≤ p.1 3 ∧ p.1 3 < 1000000) : (stP D nb m sg w tb bn p).1 3 = p.1 3 + 1 := by
  unfold stP
  split
  · show w32 (p.1 3 + 1) = _
    rw [w32_idP (by omega) (by omega)]
  · show w32 ((moP D nb m sg w tb bn p).1 3 + 1) = _
    rw [moP_3, w32_idP (by omega) (by omega)]
theorem stP_2 (p : PSt) : (stP D nb m sg w tb bn p).1 2 = p.1 2 := by
  unfold stP
  split
  · rfl
  · exact moP_2 p
theorem stP_B {p : PSt} (E : EV D nb m sg) (B : PBd nb p) (h3 : 0 ≤ p.1 3 ∧ p.1 3 < 1000000) : PBd nb (stP D nb m sg w tb bn p) := by
  by_cases z : nb = 0
  · have e : stP D nb m sg w tb bn p = (u1 p.1 3 (w32 (p.1 3 + 1)), p.2) := by
      unfold stP
      rw [if_pos z]
    rw [e]
    exact B
  · have I := PBd_I B E.1.1.2.1 (by omega) (by omega)
    have I2 := moP_I (w := w) (tb := tb) (bn := bn) E I
    have e : stP D nb m sg w tb bn p = (u1 (moP D nb m sg w tb bn p).1 3 (w32 ((moP D nb m sg w tb bn p).1 3 + 1)), (moP D nb m sg w tb bn p).2) := by
      unfold stP
      rw [if_neg z]
    have := PI_B B I2 (moP_2 p)
    rw [e]
    exact this
theorem itP_B (E : EV D nb m sg) (k : Nat) : ∀ p : PSt, PBd nb p → 0 ≤ p.1 3 → p.1 3 + k ≤ 1000000 → PBd nb (itP D nb m sg w tb bn k p) ∧ (itP D nb m sg w tb bn k p).1 3 = p.1 3 + k ∧ (itP D nb m sg w tb bn k p).1 2 = p.1 2 := by
  induction k with
  | zero => intro p B h h2; exact ⟨B, by show p.1 3 = _; omega, rfl⟩
  | succ k ih =>
    intro p B h h2
    have s3 := stP_3 (D := D) (nb := nb) (m := m) (sg := sg) (w := w) (tb := tb) (bn := bn) p (by omega)
    obtain ⟨a1, a2, a3⟩ := ih (stP D nb m sg w tb bn p) (stP_B E B (by omega)) (by omega) (by omega)
    refine ⟨a1, ?_, ?_⟩
    · show (itP D nb m sg w tb bn k (stP D nb m sg w tb bn p)).1 3 = _
      omega
    · show (itP D nb m sg w tb bn k (stP D nb m sg w tb bn p)).1 2 = _
      rw [a3, stP_2]
end S89
