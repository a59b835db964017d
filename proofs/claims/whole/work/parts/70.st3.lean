/-! Within how many steps one is caught, whatever way is gone -/
section LN0
variable {nx : Nat → Nat} {nb ce : Nat}
theorem frc_s (k : Nat) : frcI nx nb ce (k + 1) = frcI nx nb ce k ||| alI nx (frcI nx nb ce k) nb := rfl
theorem frc_mono {b : Nat} : ∀ j k, (frcI nx nb ce k).testBit b = true → (frcI nx nb ce (k + j)).testBit b = true := by
  intro j
  induction j with
  | zero => intro k h; exact h
  | succ j ih =>
    intro k h
    rw [show k + (j + 1) = (k + j) + 1 by omega, frc_s, or_t]
    exact Or.inl (ih k h)
theorem frc_le {b j k : Nat} (h : j ≤ k) (w : (frcI nx nb ce j).testBit b = true) : (frcI nx nb ce k).testBit b = true := by
  have := frc_mono (k - j) j w
  rw [show j + (k - j) = k by omega] at this
  exact this
theorem al_0 : ∀ k, alI nx 0 k = 0 := by
  intro k
  apply bits_ex
  intro j
  rw [alI_t, Nat.zero_testBit, Nat.and_zero, Nat.xor_zero]
  constructor
  · intro h; exact absurd h.2.2 h.2.1
  · intro h; cases h
theorem frc_0 (k : Nat) : frcI nx nb 0 k = 0 := by
  induction k with
  | zero => rfl
  | succ k ih => rw [frc_s, ih, al_0, Nat.or_zero]
theorem al_lt {set : Nat} : ∀ k, k ≤ nb → alI nx set k < 2 ^ nb := by
  intro k
  induction k with
  | zero => intro _; exact Nat.two_pow_pos nb
  | succ k ih =>
    intro hk
    unfold alI
    split
    · exact Nat.or_lt_two_pow (ih (by omega)) (Nat.pow_lt_pow_right (by decide) (by omega))
    · exact ih (by omega)
theorem frc_lt (h : ce < 2 ^ nb) (k : Nat) : frcI nx nb ce k < 2 ^ nb := by
  induction k with
  | zero => exact h
  | succ k ih =>
    rw [frc_s]
    exact Nat.or_lt_two_pow ih (al_lt nb (Nat.le_refl nb))
theorem frc_st (h : ce < 2 ^ nb) : ∀ k, nb - 1 ≤ k → frcI nx nb ce k = frcI nx nb ce (nb - 1) := by
  by_cases z : ce = 0
  · intro k _
    rw [z, frc_0, frc_0]
  · have e := chain_stop (s := fun k => frcI nx nb ce k) (g := fun s => alI nx s nb) (n := nb) (fun k => frc_s k) (fun k => frc_lt h k) z
    have e' : frcI nx nb ce nb = frcI nx nb ce (nb - 1) := e
    have key : ∀ i, frcI nx nb ce (nb - 1 + i) = frcI nx nb ce (nb - 1) := by
      intro i
      induction i with
      | zero => rfl
      | succ i ih =>
        by_cases hn : nb = 0
        · subst hn
          show frcI nx 0 ce (0 - 1 + (i + 1)) = _
          have : ce < 1 := h
          omega
        · rw [show nb - 1 + (i + 1) = (nb - 1 + i) + 1 by omega, frc_s, ih, ← frc_s, show nb - 1 + 1 = nb by omega]
          exact e'
    intro k hk
    have := key (k - (nb - 1))
    rw [show nb - 1 + (k - (nb - 1)) = k by omega] at this
    exact this
theorem lng_s {b : Nat} : ∀ r, r ≤ nb → (lngF nx nb b r (frcI nx nb ce (nb - r)) = -2 ∧ ∀ k, nb - r ≤ k → k < nb → ¬ (frcI nx nb ce k).testBit b = true) ∨ (∃ k : Nat, nb - r ≤ k ∧ k < nb ∧ lngF nx nb b r (frcI nx nb ce (nb - r)) = (k : Int) ∧ (frcI nx nb ce k).testBit b = true ∧ ∀ j, nb - r ≤ j → j < k → ¬ (frcI nx nb ce j).testBit b = true) := by
  intro r
  induction r with
  | zero =>
    intro _
    left
    exact ⟨rfl, fun k h1 h2 => by omega⟩
  | succ r ih =>
    intro hr
    have ih := ih (by omega)
    rw [show nb - r = nb - (r + 1) + 1 by omega, frc_s] at ih
    unfold lngF
    by_cases h : (frcI nx nb ce (nb - (r + 1))).testBit b = true
    · rw [if_pos h]
      right
      exact ⟨nb - (r + 1), Nat.le_refl _, by omega, rfl, h, fun j h1 h2 => by omega⟩
    · rw [if_neg h]
      obtain ⟨i1, i2⟩ | ⟨k, i1, i2, i3, i4, i5⟩ := ih
      · left
        refine ⟨i1, fun k h1 h2 => ?_⟩
        by_cases e : k = nb - (r + 1)
        · rw [e]; exact h
        · exact i2 k (by omega) h2
      · right
        refine ⟨k, by omega, i2, i3, i4, fun j h1 h2 => ?_⟩
        by_cases e : j = nb - (r + 1)
        · rw [e]; exact h
        · exact i5 j (by omega) h2
/-- the most steps till one is caught -/
def LvI (nx : Nat → Nat) (nb ce b : Nat) : Int := if lngF nx nb b nb ce < 0 then -2 else lngF nx nb b nb ce + 1
theorem Lv_sp (hce : ce < 2 ^ nb) {b : Nat} (hb : b < nb) : (LvI nx nb ce b = -2 ∧ ∀ k, ¬ (frcI nx nb ce k).testBit b = true) ∨ (∃ k : Nat, k < nb ∧ LvI nx nb ce b = (k : Int) + 1 ∧ (frcI nx nb ce k).testBit b = true ∧ ∀ j, j < k → ¬ (frcI nx nb ce j).testBit b = true) := by
  have := lng_s (nx := nx) (nb := nb) (ce := ce) (b := b) nb (Nat.le_refl nb)
  rw [Nat.sub_self] at this
  unfold LvI
  obtain ⟨i1, i2⟩ | ⟨k, i1, i2, i3, i4, i5⟩ := this
  · left
    have i1' : lngF nx nb b nb ce = -2 := i1
    rw [i1', if_pos (by decide)]
    refine ⟨rfl, fun k w => ?_⟩
    by_cases q : k < nb
    · exact i2 k (by omega) q w
    · rw [frc_st hce k (by omega)] at w
      exact i2 (nb - 1) (by omega) (by omega) w
  · right
    have i3' : lngF nx nb b nb ce = (k : Int) := i3
    rw [i3', if_neg (by omega)]
    exact ⟨k, i2, rfl, i4, fun j hj => i5 j (by omega) hj⟩
end LN0
section LN1
variable {F T : Int → Int} {nb m ce b : Nat}
/-- if p is caught within i steps more, c is caught within fewer -/
def NR (nx : Nat → Nat) (nb ce p c : Nat) : Prop := ∀ i, (frcI nx nb ce i).testBit p = true → ∃ i', i' < i ∧ (frcI nx nb ce i').testBit c = true
theorem NR_t {nx : Nat → Nat} {p q c : Nat} (h1 : NR nx nb ce p q) (h2 : NR nx nb ce q c) : NR nx nb ce p c := by
  intro i hi
  obtain ⟨i1, a1, a2⟩ := h1 i hi
  obtain ⟨i2, b1, b2⟩ := h2 i1 a2
  exact ⟨i2, by omega, b2⟩
theorem NR_self {nx : Nat → Nat} {p : Nat} (h : NR nx nb ce p p) : ∀ i, ¬ (frcI nx nb ce i).testBit p = true := by
  have : ∀ k i, i ≤ k → ¬ (frcI nx nb ce i).testBit p = true := by
    intro k
    induction k with
    | zero =>
      intro i hi w
      obtain ⟨i', a1, _⟩ := h i w
      omega
    | succ k ih =>
      intro i hi w
      obtain ⟨i', a1, a2⟩ := h i w
      exact ih i' (by omega) a2
  exact fun i => this i i (Nat.le_refl i)
theorem NR_e (hE : ∀ k : Nat, k < m → (0 ≤ F k ∧ F k < nb) ∧ 0 ≤ T k ∧ T k < nb) (hb : b < nb) (hc : ¬ ce.testBit b = true) {e : Nat} (he : e < m) (hF : F e = b) : NR (fun b => nxE F T b m) nb ce b (T e).toNat := by
  intro i
  induction i with
  | zero => intro w; exact absurd w hc
  | succ i ih =>
    intro w
    rw [frc_s, or_t] at w
    obtain w | w := w
    · obtain ⟨i', a1, a2⟩ := ih w
      exact ⟨i', by omega, a2⟩
    · exact ⟨i, by omega, ((al_e hE hb).mp w).2 e he hF⟩
theorem Lv_1 (hce : ce < 2 ^ nb) {nx : Nat → Nat} (hb : b < nb) (h : ce.testBit b = true) : LvI nx nb ce b = 1 := by
  obtain ⟨_, i2⟩ | ⟨k, i1, i2, i3, i4⟩ := Lv_sp (nx := nx) hce hb
  · exact absurd h (i2 0)
  · by_cases q : k = 0
    · subst q; rw [i2]; rfl
    · exact absurd h (i4 0 (by omega))
theorem Lv_n (hce : ce < 2 ^ nb) {nx : Nat → Nat} (hb : b < nb) (h : ∀ k, ¬ (frcI nx nb ce k).testBit b = true) : LvI nx nb ce b = -2 := by
  obtain ⟨i1, _⟩ | ⟨k, i1, i2, i3, i4⟩ := Lv_sp (nx := nx) hce hb
  · exact i1
  · exact absurd i3 (h k)
theorem Lv_r (hce : ce < 2 ^ nb) {nx : Nat → Nat} (hb : b < nb) : LvI nx nb ce b = -2 ∨ (1 ≤ LvI nx nb ce b ∧ LvI nx nb ce b ≤ nb) := by
  obtain ⟨i1, _⟩ | ⟨k, i1, i2, i3, i4⟩ := Lv_sp (nx := nx) hce hb
  · exact Or.inl i1
  · right; omega
theorem Lv_2 (hE : ∀ k : Nat, k < m → (0 ≤ F k ∧ F k < nb) ∧ 0 ≤ T k ∧ T k < nb) (hce : ce < 2 ^ nb) (hb : b < nb) (hc : ¬ ce.testBit b = true) (h : ∀ e : Nat, e < m → ¬ F e = b) : LvI (fun b => nxE F T b m) nb ce b = -2 := by
  apply Lv_n hce hb
  intro k
  induction k with
  | zero => exact hc
  | succ k ih =>
    intro w
    rw [frc_s, or_t] at w
    obtain w | w := w
    · exact ih w
    · obtain ⟨⟨e, e1, e2⟩, _⟩ := (al_e hE hb).mp w
      exact h e e1 e2
theorem Lv_3 (hE : ∀ k : Nat, k < m → (0 ≤ F k ∧ F k < nb) ∧ 0 ≤ T k ∧ T k < nb) (hce : ce < 2 ^ nb) (hb : b < nb) (hc : ¬ ce.testBit b = true) {e : Nat} (he : e < m) (hF : F e = b) (h : LvI (fun b => nxE F T b m) nb ce (T e).toNat = -2) : LvI (fun b => nxE F T b m) nb ce b = -2 := by
  have ht := (hE e he).2
  apply Lv_n hce hb
  intro k w
  obtain ⟨i, _, a2⟩ := NR_e hE hb hc he hF k w
  obtain ⟨_, i2⟩ | ⟨k, i1, i2, i3, i4⟩ := Lv_sp (nx := fun b => nxE F T b m) hce (show (T e).toNat < nb by omega)
  · exact i2 i a2
  · omega
theorem Lv_4 (hE : ∀ k : Nat, k < m → (0 ≤ F k ∧ F k < nb) ∧ 0 ≤ T k ∧ T k < nb) (hce : ce < 2 ^ nb) (hb : b < nb) (hc : ¬ ce.testBit b = true) {M : Int} (h0 : 1 ≤ M) (h1 : ∀ e : Nat, e < m → F e = b → 1 ≤ LvI (fun b => nxE F T b m) nb ce (T e).toNat ∧ LvI (fun b => nxE F T b m) nb ce (T e).toNat ≤ M) (h2 : ∃ e : Nat, e < m ∧ F e = b ∧ LvI (fun b => nxE F T b m) nb ce (T e).toNat = M) : LvI (fun b => nxE F T b m) nb ce b = M + 1 := by
  obtain ⟨e0, c1, c2, c3⟩ := h2
  have ht0 := (hE e0 c1).2
  have hrk : (frcI (fun b => nxE F T b m) nb ce (M.toNat)).testBit b = true := by
    rw [show M.toNat = M.toNat - 1 + 1 by omega, frc_s, or_t]
    right
    rw [al_e hE hb]
    refine ⟨⟨e0, c1, c2⟩, fun e he hF => ?_⟩
    have ht := (hE e he).2
    have l1 := h1 e he hF
    obtain ⟨i1, i2⟩ | ⟨k, i1, i2, i3, i4⟩ := Lv_sp (nx := fun b => nxE F T b m) hce (show (T e).toNat < nb by omega)
    · omega
    · exact frc_le (by omega) i3
  obtain ⟨_, i2⟩ | ⟨k, i1, i2, i3, i4⟩ := Lv_sp (nx := fun b => nxE F T b m) hce hb
  · exact absurd hrk (i2 _)
  · have t1 : k ≤ M.toNat := by
      apply Classical.byContradiction
      intro q
      exact i4 M.toNat (by omega) hrk
    have t2 : M.toNat ≤ k := by
      obtain ⟨i', a1, a2⟩ := NR_e hE hb hc c1 c2 k i3
      obtain ⟨_, j2⟩ | ⟨k2, j1, j2, j3, j4⟩ := Lv_sp (nx := fun b => nxE F T b m) hce (show (T e0).toNat < nb by omega)
      · exact absurd a2 (j2 i')
      · apply Classical.byContradiction
        intro q
        exact j4 i' (by omega) a2
    rw [i2]
    omega
end LN1
def Ex2 (G G' : Sto) (s s' : Nat) : Prop := s ≤ s' ∧ (∀ (z : Int) (j : Nat), 157 ≤ z → z ≤ 160 → j < s → G' z j = G z j) ∧ (∀ j : Nat, j < s → (G' 161 j = -1 ↔ G 161 j = -1)) ∧ (∀ j : Nat, s ≤ j → j < s' → ¬ G' 161 j = -1)
theorem Ex2_r {G : Sto} {s : Nat} : Ex2 G G s s := ⟨Nat.le_refl s, fun _ _ _ _ _ => rfl, fun _ _ => Iff.rfl, fun j h1 h2 => by omega⟩
theorem Ex2_t {G G1 G2 : Sto} {s s1 s2 : Nat} (h1 : Ex2 G G1 s s1) (h2 : Ex2 G1 G2 s1 s2) : Ex2 G G2 s s2 := by
  obtain ⟨a1, a2, a3, a4⟩ := h1
  obtain ⟨b1, b2, b3, b4⟩ := h2
  refine ⟨by omega, fun z j h1 h2 h3 => ?_, fun j hj => ?_, fun j h1 h2 => ?_⟩
  · rw [b2 z j h1 h2 (by omega), a2 z j h1 h2 h3]
  · rw [b3 j (by omega), a3 j hj]
  · by_cases q : j < s1
    · rw [b3 j q]
      exact a4 j h1 q
    · exact b4 j (by omega) h2
theorem Ex2_of {G G' : Sto} {s s' : Nat} (h : Ext G G' s s') : Ex2 G G' s s' := by
  obtain ⟨⟨a1, a2⟩, a3, a4⟩ := h
  refine ⟨a1, fun z j h1 h2 h3 => a3 z j h1 (by omega) h3, fun j hj => ?_, fun j h1 h2 => ?_⟩
  · rw [a3 161 j (by decide) (by decide) hj]
  · rw [(a4 j h1 h2).2]
    decide
theorem Ex2_c {G G' : Sto} {s s' : Nat} (h : Ex2 G G' s s') : cntP (fun j => decide (G' 161 j = -1)) s' = cntP (fun j => decide (G 161 j = -1)) s := by
  obtain ⟨a1, a2, a3, a4⟩ := h
  have key : ∀ k, s + k ≤ s' → cntP (fun j => decide (G' 161 j = -1)) (s + k) = cntP (fun j => decide (G 161 j = -1)) s := by
    intro k
    induction k with
    | zero =>
      intro _
      apply cntP_ex
      intro i hi
      show decide (G' 161 i = -1) = decide (G 161 i = -1)
      rw [decide_eq_decide]
      exact a3 i hi
    | succ k ih =>
      intro hk
      have e : cntP (fun j => decide (G' 161 j = -1)) (s + k + 1) = cntP (fun j => decide (G' 161 j = -1)) (s + k) + (if decide (G' 161 ((s + k : Nat) : Int) = -1) = true then 1 else 0) := rfl
      have q := a4 (s + k) (by omega) (by omega)
      rw [show s + (k + 1) = s + k + 1 by omega, e, ih (by omega), if_neg (fun w => q (of_decide_eq_true w)), Nat.add_zero]
  have := key (s' - s) (by omega)
  rw [show s + (s' - s) = s' by omega] at this
  exact this
