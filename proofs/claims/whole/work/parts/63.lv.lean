/-! How far blocks are: sets by bits, levels -/
theorem tp_t {k j : Nat} : (2 ^ k).testBit j = true ↔ k = j := by
  rw [Nat.testBit_two_pow]
  exact decide_eq_true_iff
theorem or_t {x y j : Nat} : (x ||| y).testBit j = true ↔ x.testBit j = true ∨ y.testBit j = true := by
  rw [Nat.testBit_or, Bool.or_eq_true]
theorem and_t {x y j : Nat} : (x &&& y).testBit j = true ↔ x.testBit j = true ∧ y.testBit j = true := by
  rw [Nat.testBit_and, Bool.and_eq_true]
theorem andn_t {x y j : Nat} : (x ^^^ (x &&& y)).testBit j = true ↔ x.testBit j = true ∧ ¬ y.testBit j = true := by
  rw [Nat.testBit_xor, Nat.testBit_and]
  cases x.testBit j <;> cases y.testBit j <;> simp
theorem bits_ex {x y : Nat} (h : ∀ j, x.testBit j = true ↔ y.testBit j = true) : x = y := by
  apply Nat.eq_of_testBit_eq
  intro j
  exact Bool.eq_iff_iff.mpr (h j)
theorem nz_t {x : Nat} : ¬ x = 0 ↔ ∃ j, x.testBit j = true := by
  constructor
  · intro h
    apply Classical.byContradiction
    intro q
    apply h
    apply bits_ex
    intro j
    rw [Nat.zero_testBit]
    constructor
    · intro w; exact absurd ⟨j, w⟩ q
    · intro w; cases w
  · intro ⟨j, hj⟩ q
    rw [q, Nat.zero_testBit] at hj
    cases hj
theorem and_nz {x y : Nat} : ¬ x &&& y = 0 ↔ ∃ j, x.testBit j = true ∧ y.testBit j = true := by
  rw [nz_t]
  constructor
  · intro ⟨j, hj⟩; exact ⟨j, and_t.mp hj⟩
  · intro ⟨j, hj⟩; exact ⟨j, and_t.mpr hj⟩
theorem lt_t {x n j : Nat} (h : x < 2 ^ n) (hj : x.testBit j = true) : j < n := by
  apply Classical.byContradiction
  intro q
  have : x < 2 ^ j := Nat.lt_of_lt_of_le h (Nat.pow_le_pow_right (by decide) (by omega))
  rw [Nat.testBit_lt_two_pow this] at hj
  cases hj
theorem bitP_t {p : Nat → Bool} {j : Nat} : ∀ k, (bitP p k).testBit j = true ↔ j < k ∧ p j = true := by
  intro k
  induction k with
  | zero =>
    unfold bitP
    rw [Nat.zero_testBit]
    constructor
    · intro h; cases h
    · intro h; omega
  | succ k ih =>
    unfold bitP
    by_cases h : p k = true
    · rw [if_pos h, or_t, ih, tp_t]
      constructor
      · intro w
        obtain w | w := w
        · exact ⟨by omega, w.2⟩
        · subst w; exact ⟨by omega, h⟩
      · intro w
        by_cases e : k = j
        · exact Or.inr e
        · exact Or.inl ⟨by omega, w.2⟩
    · rw [if_neg h, ih]
      constructor
      · intro w; exact ⟨by omega, w.2⟩
      · intro w
        by_cases e : k = j
        · subst e; exact absurd w.2 h
        · exact ⟨by omega, w.2⟩
theorem nxE_t {F T : Int → Int} {b : Int} {m c : Nat} (hT : ∀ k : Nat, k < m → 0 ≤ T k) : ∀ k, k ≤ m → ((nxE F T b k).testBit c = true ↔ ∃ e : Nat, e < k ∧ F e = b ∧ T e = c) := by
  intro k
  induction k with
  | zero =>
    intro _
    unfold nxE
    rw [Nat.zero_testBit]
    constructor
    · intro h; cases h
    · intro ⟨e, he, _⟩; omega
  | succ k ih =>
    intro hk
    have ih := ih (by omega)
    have h0 := hT k (by omega)
    unfold nxE
    by_cases h : F k = b
    · rw [if_pos h, or_t, ih, tp_t]
      constructor
      · intro w
        obtain ⟨e, h1, h2⟩ | w := w
        · exact ⟨e, by omega, h2⟩
        · exact ⟨k, by omega, h, by omega⟩
      · intro ⟨e, h1, h2, h3⟩
        by_cases q : e = k
        · subst q; exact Or.inr (by omega)
        · exact Or.inl ⟨e, by omega, h2, h3⟩
    · rw [if_neg h, ih]
      constructor
      · intro ⟨e, h1, h2⟩; exact ⟨e, by omega, h2⟩
      · intro ⟨e, h1, h2, h3⟩
        by_cases q : e = k
        · subst q; exact absurd h2 h
        · exact ⟨e, by omega, h2, h3⟩
theorem nxE_lt {F T : Int → Int} {b : Int} {m n : Nat} (hT : ∀ k : Nat, k < m → T k < (n : Int)) (hn : 0 < n) : ∀ k, k ≤ m → nxE F T b k < 2 ^ n := by
  intro k
  induction k with
  | zero => intro _; exact Nat.two_pow_pos n
  | succ k ih =>
    intro hk
    have h0 := hT k (by omega)
    unfold nxE
    split
    · exact Nat.or_lt_two_pow (ih (by omega)) (Nat.pow_lt_pow_right (by decide) (by omega))
    · exact ih (by omega)
theorem bhd_t {nx : Nat → Nat} {set c : Nat} : ∀ k, (bhd nx set k).testBit c = true ↔ ∃ b, b < k ∧ set.testBit b = true ∧ (nx b).testBit c = true := by
  intro k
  induction k with
  | zero =>
    unfold bhd
    rw [Nat.zero_testBit]
    constructor
    · intro h; cases h
    · intro ⟨e, he, _⟩; omega
  | succ k ih =>
    unfold bhd
    by_cases h : set.testBit k = true
    · rw [if_pos h, or_t, ih]
      constructor
      · intro w
        obtain ⟨e, h1, h2⟩ | w := w
        · exact ⟨e, by omega, h2⟩
        · exact ⟨k, by omega, h, w⟩
      · intro ⟨e, h1, h2, h3⟩
        by_cases q : e = k
        · subst q; exact Or.inr h3
        · exact Or.inl ⟨e, by omega, h2, h3⟩
    · rw [if_neg h, ih]
      constructor
      · intro ⟨e, h1, h2⟩; exact ⟨e, by omega, h2⟩
      · intro ⟨e, h1, h2, h3⟩
        by_cases q : e = k
        · subst q; exact absurd h2 h
        · exact ⟨e, by omega, h2, h3⟩
/-- blocks to which one comes by so many edges at most, one left out -/
def lvF (F T : Int → Int) (m : Nat) (fr but : Int) : Nat → Int → Prop
  | 0, c => c = fr ∧ ¬ fr = but
  | k + 1, c => lvF F T m fr but k c ∨ ∃ e : Nat, e < m ∧ lvF F T m fr but k (F e) ∧ T e = c ∧ ¬ c = but
section LV
variable {F T : Int → Int} {m nb : Nat} {fr but : Int}
theorem lv_nb : ∀ k c, lvF F T m fr but k c → ¬ c = but := by
  intro k
  induction k with
  | zero => intro c h; unfold lvF at h; rw [h.1]; exact h.2
  | succ k ih =>
    intro c h
    unfold lvF at h
    obtain h | ⟨e, _, _, _, h⟩ := h
    · exact ih c h
    · exact h
theorem lv_b : ∀ k c, fr = but → ¬ lvF F T m fr but k c := by
  intro k
  induction k with
  | zero => intro c h q; exact q.2 h
  | succ k ih =>
    intro c h q
    unfold lvF at q
    obtain q | ⟨e, _, q, _⟩ := q
    · exact ih c h q
    · exact ih _ h q
theorem lv_monoP {c : Int} : ∀ j k, lvF F T m fr but k c → lvF F T m fr but (k + j) c := by
  intro j
  induction j with
  | zero => intro k h; exact h
  | succ j ih => intro k h; exact Or.inl (ih k h)
theorem lv_le {c : Int} {j k : Nat} (h : j ≤ k) (q : lvF F T m fr but j c) : lvF F T m fr but k c := by
  have := lv_monoP (k - j) j q
  rw [show j + (k - j) = k by omega] at this
  exact this
theorem rch_lv {nx : Nat → Nat} {shut start : Nat} (hx : ∀ b : Nat, b < nb → nx b = nxE F T b m) (hE : ∀ k : Nat, k < m → (0 ≤ F k ∧ F k < nb) ∧ 0 ≤ T k ∧ T k < nb) (hs : ∀ j : Nat, shut.testBit j = true ↔ (j : Int) = but) : ∀ k (c : Nat), ¬ (c : Int) = but → ((rchI nx nb shut start k).testBit c = true ↔ lvF F T m start but k c) := by
  intro k
  induction k with
  | zero =>
    intro c hc
    unfold rchI lvF
    rw [tp_t]
    constructor
    · intro h; subst h; exact ⟨rfl, hc⟩
    · intro h; omega
  | succ k ih =>
    intro c hc
    show (rchI nx nb shut start k ||| bhd nx (rchI nx nb shut start k ^^^ (rchI nx nb shut start k &&& shut)) nb).testBit c = true ↔ (lvF F T m start but k c ∨ ∃ e : Nat, e < m ∧ lvF F T m start but k (F e) ∧ T e = c ∧ ¬ (c : Int) = but)
    rw [or_t, ih c hc, bhd_t]
    constructor
    · intro w
      obtain w | ⟨b, h1, h2, h3⟩ := w
      · exact Or.inl w
      · rw [andn_t, hs] at h2
        rw [hx b h1, nxE_t (fun k hk => (hE k hk).2.1) m (Nat.le_refl m)] at h3
        obtain ⟨e, e1, e2, e3⟩ := h3
        refine Or.inr ⟨e, e1, ?_, e3, hc⟩
        rw [e2]
        exact (ih b h2.2).mp h2.1
    · intro w
      obtain w | ⟨e, e1, e2, e3, e4⟩ := w
      · exact Or.inl w
      · have f := hE e e1
        have en : ((F e).toNat : Int) = F e := Int.toNat_of_nonneg f.1.1
        have e5 : ¬ ((F e).toNat : Int) = but := by rw [en]; exact lv_nb k _ e2
        refine Or.inr ⟨(F e).toNat, by omega, ?_, ?_⟩
        · rw [andn_t, hs]
          refine ⟨(ih _ e5).mpr ?_, e5⟩
          rw [en]
          exact e2
        · rw [hx _ (by omega), nxE_t (fun k hk => (hE k hk).2.1) m (Nat.le_refl m)]
          exact ⟨e, e1, en.symm, e3⟩
end LV
theorem cntP_lt {p q : Nat → Bool} : ∀ n, (∀ i, i < n → p i = true → q i = true) → cntP p n ≤ cntP q n := by
  intro n
  induction n with
  | zero => intro _; exact Nat.le_refl _
  | succ n ih =>
    intro h
    have h1 := ih (fun i hi => h i (by omega))
    have h2 := h n (by omega)
    unfold cntP
    by_cases c : p n = true
    · rw [if_pos c, if_pos (h2 c)]
      omega
    · rw [if_neg c]
      split <;> omega
theorem cntP_s {p q : Nat → Bool} : ∀ n, (∀ i, i < n → p i = true → q i = true) → (∃ i, i < n ∧ q i = true ∧ ¬ p i = true) → cntP p n + 1 ≤ cntP q n := by
  intro n
  induction n with
  | zero => intro _ ⟨i, hi, _⟩; omega
  | succ n ih =>
    intro h ⟨i, hi, h1, h2⟩
    have h3 := cntP_lt n (fun i hi => h i (by omega))
    have h4 := h n (by omega)
    unfold cntP
    by_cases e : i = n
    · subst e
      rw [if_neg h2, if_pos h1]
      omega
    · have := ih (fun i hi => h i (by omega)) ⟨i, by omega, h1, h2⟩
      by_cases c : p n = true
      · rw [if_pos c, if_pos (h4 c)]
        omega
      · rw [if_neg c]
        split <;> omega
/-- a growing row of sets of n things stands still behind n - 1 steps -/
theorem chain_stop {s : Nat → Nat} {g : Nat → Nat} {n : Nat} (hs : ∀ k, s (k + 1) = s k ||| g (s k)) (hl : ∀ k, s k < 2 ^ n) (h0 : ¬ s 0 = 0) : s n = s (n - 1) := by
  have st : ∀ i j, s (j + 1) = s j → s (j + i) = s j := by
    intro i
    induction i with
    | zero => intro j _; rfl
    | succ i ih =>
      intro j h
      have := ih j h
      rw [show j + (i + 1) = (j + i) + 1 by omega, hs, this, ← hs, h]
  have key : ∀ k, (∃ j, j < k ∧ s (j + 1) = s j) ∨ k + 1 ≤ cntP (fun i => (s k).testBit i) n := by
    intro k
    induction k with
    | zero =>
      right
      obtain ⟨j, hj⟩ := nz_t.mp h0
      have hjn := lt_t (hl 0) hj
      have := cntP_s (p := fun _ => false) (q := fun i => (s 0).testBit i) n (fun i _ h => by cases h) ⟨j, hjn, hj, by simp⟩
      omega
    | succ k ih =>
      obtain ⟨j, h1, h2⟩ | ih := ih
      · exact Or.inl ⟨j, by omega, h2⟩
      · by_cases e : s (k + 1) = s k
        · exact Or.inl ⟨k, by omega, e⟩
        · right
          have h1 : ∃ i, i < n ∧ (s (k + 1)).testBit i = true ∧ ¬ (s k).testBit i = true := by
            apply Classical.byContradiction
            intro q
            apply e
            apply bits_ex
            intro j
            constructor
            · intro w
              apply Classical.byContradiction
              intro w2
              exact q ⟨j, lt_t (hl (k + 1)) w, w, w2⟩
            · intro w
              rw [hs, or_t]
              exact Or.inl w
          have := cntP_s (p := fun i => (s k).testBit i) (q := fun i => (s (k + 1)).testBit i) n (fun i _ h => by
            show (s (k + 1)).testBit i = true
            rw [hs, or_t]
            exact Or.inl h) h1
          omega
  obtain ⟨j, h1, h2⟩ | h := key n
  · have e1 := st (n - j) j h2
    have e2 := st (n - 1 - j) j h2
    rw [show j + (n - j) = n by omega] at e1
    rw [show j + (n - 1 - j) = n - 1 by omega] at e2
    rw [e1, e2]
  · have := cntP_le (fun i => (s n).testBit i) n
    omega
section DS
variable {nx : Nat → Nat} {nb start goals : Nat}
theorem rch0 (k : Nat) : rchI nx nb 0 start (k + 1) = rchI nx nb 0 start k ||| bhd nx (rchI nx nb 0 start k) nb := by
  show rchI nx nb 0 start k ||| bhd nx (rchI nx nb 0 start k ^^^ (rchI nx nb 0 start k &&& 0)) nb = _
  rw [Nat.and_zero, Nat.xor_zero]
theorem dst_s : ∀ r, r ≤ nb → (dstF nx nb goals r (rchI nx nb 0 start (nb - r)) = -2 ∧ ∀ k, nb - r ≤ k → k < nb → rchI nx nb 0 start k &&& goals = 0) ∨ (∃ k : Nat, nb - r ≤ k ∧ k < nb ∧ dstF nx nb goals r (rchI nx nb 0 start (nb - r)) = (k : Int) ∧ ¬ rchI nx nb 0 start k &&& goals = 0 ∧ ∀ j, nb - r ≤ j → j < k → rchI nx nb 0 start j &&& goals = 0) := by
  intro r
  induction r with
  | zero =>
    intro _
    left
    exact ⟨rfl, fun k h1 h2 => by omega⟩
  | succ r ih =>
    intro hr
    have ih := ih (by omega)
    rw [show nb - r = nb - (r + 1) + 1 by omega, rch0] at ih
    unfold dstF
    by_cases h : rchI nx nb 0 start (nb - (r + 1)) &&& goals = 0
    · rw [if_pos h]
      obtain ⟨i1, i2⟩ | ⟨k, i1, i2, i3, i4, i5⟩ := ih
      · left
        refine ⟨i1, fun k h1 h2 => ?_⟩
        by_cases e : k = nb - (r + 1)
        · rw [e]; exact h
        · exact i2 k (by omega) h2
      · right
        refine ⟨k, by omega, i2, i3, i4, fun j h1 h2 => ?_⟩
        by_cases e : j = nb - (r + 1)
        · rw [e]; exact h
        · exact i5 j (by omega) h2
    · rw [if_neg h]
      right
      exact ⟨nb - (r + 1), Nat.le_refl _, by omega, rfl, h, fun j h1 h2 => by omega⟩
theorem dst_sp : (dstF nx nb goals nb (2 ^ start) = -2 ∧ ∀ k, k < nb → rchI nx nb 0 start k &&& goals = 0) ∨ (∃ k : Nat, k < nb ∧ dstF nx nb goals nb (2 ^ start) = (k : Int) ∧ ¬ rchI nx nb 0 start k &&& goals = 0 ∧ ∀ j, j < k → rchI nx nb 0 start j &&& goals = 0) := by
  have := dst_s (nx := nx) (nb := nb) (start := start) (goals := goals) nb (Nat.le_refl nb)
  rw [Nat.sub_self] at this
  obtain ⟨i1, i2⟩ | ⟨k, i1, i2, i3, i4, i5⟩ := this
  · exact Or.inl ⟨i1, fun k hk => i2 k (by omega) hk⟩
  · exact Or.inr ⟨k, i2, i3, i4, fun j hj => i5 j (by omega) hj⟩
end DS
