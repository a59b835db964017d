/-! Twins: leaders -/
theorem cntE_mono {f : Int → Int} {v : Int} : ∀ j k, cntE f v k ≤ cntE f v (k + j) := by
  intro j
  induction j with
  | zero => intro k; exact Int.le_refl _
  | succ j ih =>
    intro k
    have := ih k
    rw [show k + (j + 1) = (k + j) + 1 by omega]
    have e : cntE f v (k + j + 1) = cntE f v (k + j) + (if f ((k + j : Nat) : Int) = v then 1 else 0) := rfl
    rw [e]
    split <;> omega
theorem cntE_le {f : Int → Int} {v : Int} {j k : Nat} (h : j ≤ k) : cntE f v j ≤ cntE f v k := by
  have := cntE_mono (f := f) (v := v) (k - j) j
  rw [show j + (k - j) = k by omega] at this
  exact this
theorem nth_at {f g : Int → Int} {v : Int} {m : Nat} : ∀ r, r ≤ m → ∀ e : Nat, m - r ≤ e → e < m → f e = v → nthE f g v m r (cntE f v e - cntE f v (m - r)) = g e := by
  intro r
  induction r with
  | zero => intro _ e h1 h2; omega
  | succ r ih =>
    intro hr e h1 h2 h3
    have en : m - r = m - (r + 1) + 1 := by omega
    have ec : cntE f v (m - (r + 1) + 1) = cntE f v (m - (r + 1)) + (if f ((m - (r + 1) : Nat) : Int) = v then 1 else 0) := rfl
    have ih := ih (by omega)
    rw [en, ec] at ih
    rw [show nthE f g v m (r + 1) (cntE f v e - cntE f v (m - (r + 1))) = (if f ((m - (r + 1) : Nat) : Int) = v then (if cntE f v e - cntE f v (m - (r + 1)) = 0 then g ((m - (r + 1) : Nat) : Int) else nthE f g v m r (cntE f v e - cntE f v (m - (r + 1)) - 1)) else nthE f g v m r (cntE f v e - cntE f v (m - (r + 1)))) from rfl]
    by_cases c : f ((m - (r + 1) : Nat) : Int) = v
    · rw [if_pos c] at ih ⊢
      by_cases q : e = m - (r + 1)
      · rw [if_pos (by rw [q]; omega), q]
      · have hm := cntE_le (f := f) (v := v) (show m - (r + 1) + 1 ≤ e by omega)
        rw [ec, if_pos c] at hm
        rw [if_neg (by omega), ← ih e (by omega) h2 h3]
        congr 1
        omega
    · rw [if_neg c] at ih ⊢
      have q : ¬ e = m - (r + 1) := fun w => c (by rw [← w]; exact h3)
      rw [← ih e (by omega) h2 h3]
      congr 1
      omega
theorem cnt_ex {f : Int → Int} {v : Int} : ∀ (m : Nat) (i : Int), 0 ≤ i → i < cntE f v m → ∃ e : Nat, e < m ∧ f e = v ∧ cntE f v e = i := by
  intro m
  induction m with
  | zero => intro i h0 h1; unfold cntE at h1; omega
  | succ m ih =>
    intro i h0 h1
    by_cases c : i < cntE f v m
    · obtain ⟨e, a1, a2⟩ := ih i h0 c
      exact ⟨e, by omega, a2⟩
    · unfold cntE at h1
      by_cases q : f (m : Int) = v
      · rw [if_pos q] at h1
        exact ⟨m, by omega, q, by omega⟩
      · rw [if_neg q] at h1
        omega
/-- the i-th edge from a block -/
theorem nth_ok {f g : Int → Int} {v : Int} {m : Nat} {i : Int} (h0 : 0 ≤ i) (h1 : i < cntE f v m) : ∃ e : Nat, e < m ∧ f e = v ∧ nthE f g v m m i = g e := by
  obtain ⟨e, a1, a2, a3⟩ := cnt_ex m i h0 h1
  have := nth_at (f := f) (g := g) (v := v) (m := m) m (Nat.le_refl m) e (by omega) a1 a2
  rw [Nat.sub_self, a3, show cntE f v 0 = 0 from rfl, Int.sub_zero] at this
  exact ⟨e, a1, a2, this⟩
theorem cntE_s {f : Int → Int} {v : Int} {m e : Nat} (h : e < m) (hv : f e = v) : cntE f v e < cntE f v m := by
  have := cntE_le (f := f) (v := v) (show e + 1 ≤ m by omega)
  have e2 : cntE f v (e + 1) = cntE f v e + (if f (e : Int) = v then 1 else 0) := rfl
  rw [e2, if_pos hv] at this
  omega
theorem nth_all {f g : Int → Int} {v : Int} {m e : Nat} (h : e < m) (hv : f e = v) : ∃ i : Nat, (i : Int) < cntE f v m ∧ nthE f g v m m i = g e := by
  have h0 := cntE_b f v e
  have := nth_at (f := f) (g := g) (v := v) (m := m) m (Nat.le_refl m) e (by omega) h hv
  rw [Nat.sub_self, show cntE f v 0 = 0 from rfl, Int.sub_zero] at this
  refine ⟨(cntE f v e).toNat, ?_, ?_⟩
  · rw [Int.toNat_of_nonneg h0.1]
    exact cntE_s h hv
  · rw [Int.toNat_of_nonneg h0.1]
    exact this
theorem smI_t {nx : Nat → Nat} {set b : Nat} : ∀ k, (smI nx set k).testBit b = true ↔ b < k ∧ ¬ nx b &&& set = 0 := by
  intro k
  induction k with
  | zero =>
    unfold smI
    rw [Nat.zero_testBit]
    constructor
    · intro h; cases h
    · intro h; omega
  | succ k ih =>
    unfold smI
    by_cases h : nx k &&& set = 0
    · rw [if_pos h, ih]
      constructor
      · intro w; exact ⟨by omega, w.2⟩
      · intro w
        by_cases e : k = b
        · subst e; exact absurd h w.2
        · exact ⟨by omega, w.2⟩
    · rw [if_neg h, or_t, ih, tp_t]
      constructor
      · intro w
        obtain w | w := w
        · exact ⟨by omega, w.2⟩
        · subst w; exact ⟨by omega, h⟩
      · intro w
        by_cases e : k = b
        · exact Or.inr e
        · exact Or.inl ⟨by omega, w.2⟩
theorem alI_t {nx : Nat → Nat} {set b : Nat} : ∀ k, (alI nx set k).testBit b = true ↔ b < k ∧ ¬ nx b = 0 ∧ nx b ^^^ (nx b &&& set) = 0 := by
  intro k
  induction k with
  | zero =>
    unfold alI
    rw [Nat.zero_testBit]
    constructor
    · intro h; cases h
    · intro h; omega
  | succ k ih =>
    unfold alI
    by_cases h : nx k ≠ 0 ∧ nx k ^^^ (nx k &&& set) = 0
    · rw [if_pos h, or_t, ih, tp_t]
      constructor
      · intro w
        obtain w | w := w
        · exact ⟨by omega, w.2⟩
        · subst w; exact ⟨by omega, h⟩
      · intro w
        by_cases e : k = b
        · exact Or.inr e
        · exact Or.inl ⟨by omega, w.2⟩
    · rw [if_neg h, ih]
      constructor
      · intro w; exact ⟨by omega, w.2⟩
      · intro w
        by_cases e : k = b
        · subst e; exact absurd w.2 h
        · exact ⟨by omega, w.2⟩
section LD
variable {F T : Int → Int} {nb m set b : Nat}
/-- an edge from b leads into the set -/
theorem sm_e (hE : ∀ k : Nat, k < m → (0 ≤ F k ∧ F k < nb) ∧ 0 ≤ T k ∧ T k < nb) (hb : b < nb) : (smI (fun b => nxE F T b m) set nb).testBit b = true ↔ ∃ e : Nat, e < m ∧ F e = b ∧ set.testBit (T e).toNat = true := by
  rw [smI_t]
  constructor
  · intro ⟨_, h⟩
    obtain ⟨j, h1, h2⟩ := and_nz.mp h
    obtain ⟨e, e1, e2, e3⟩ := (nxE_t (fun k hk => (hE k hk).2.1) m (Nat.le_refl m)).mp h1
    refine ⟨e, e1, e2, ?_⟩
    rw [e3]
    exact h2
  · intro ⟨e, e1, e2, e3⟩
    refine ⟨hb, and_nz.mpr ⟨(T e).toNat, ?_, e3⟩⟩
    rw [nxE_t (fun k hk => (hE k hk).2.1) m (Nat.le_refl m)]
    exact ⟨e, e1, e2, (Int.toNat_of_nonneg (hE e e1).2.1).symm⟩
theorem al_e (hE : ∀ k : Nat, k < m → (0 ≤ F k ∧ F k < nb) ∧ 0 ≤ T k ∧ T k < nb) (hb : b < nb) : (alI (fun b => nxE F T b m) set nb).testBit b = true ↔ (∃ e : Nat, e < m ∧ F e = b) ∧ ∀ e : Nat, e < m → F e = b → set.testBit (T e).toNat = true := by
  rw [alI_t]
  constructor
  · intro ⟨_, h0, h⟩
    constructor
    · obtain ⟨j, h1⟩ := nz_t.mp h0
      obtain ⟨e, e1, e2, e3⟩ := (nxE_t (fun k hk => (hE k hk).2.1) m (Nat.le_refl m)).mp h1
      exact ⟨e, e1, e2⟩
    · intro e e1 e2
      apply Classical.byContradiction
      intro q
      have : (nxE F T b m ^^^ (nxE F T b m &&& set)).testBit (T e).toNat = true := by
        rw [andn_t]
        refine ⟨?_, q⟩
        rw [nxE_t (fun k hk => (hE k hk).2.1) m (Nat.le_refl m)]
        exact ⟨e, e1, e2, (Int.toNat_of_nonneg (hE e e1).2.1).symm⟩
      exact nz_t.mpr ⟨_, this⟩ h
  · intro ⟨⟨e, e1, e2⟩, h⟩
    refine ⟨hb, nz_t.mpr ⟨(T e).toNat, ?_⟩, ?_⟩
    · rw [nxE_t (fun k hk => (hE k hk).2.1) m (Nat.le_refl m)]
      exact ⟨e, e1, e2, (Int.toNat_of_nonneg (hE e e1).2.1).symm⟩
    · apply Classical.byContradiction
      intro q
      obtain ⟨j, hj⟩ := nz_t.mp q
      rw [andn_t] at hj
      obtain ⟨e', f1, f2, f3⟩ := (nxE_t (fun k hk => (hE k hk).2.1) m (Nat.le_refl m)).mp hj.1
      have := h e' f1 f2
      rw [f3] at this
      exact hj.2 this
end LD
def fsI (p : Nat → Bool) (g : Nat → Int) (c : Nat) : Nat → Int
  | 0 => -2
  | r + 1 => if p (c - (r + 1)) = true then g (c - (r + 1)) else fsI p g c r
section T67
variable {xs : Int → Int} {n : Int × Int} {D : Sto} {nb m : Nat}
theorem rz297 : ret01 297 0 = true ∧ ret01 297 1 = true := ⟨rfl, rfl⟩
theorem c236n (d b i : Nat) (H : RG D nb m) (hi : i < 1000) : den (d + 1) 236 [(2, 129), (0, (b : Int)), (0, (i : Int))] (Sg xs n D) = some ((0, nthE (D 136) (fun z => z) b m m i), Sg xs n D) := c236 d (b : Int) (i : Int) (by omega) (by omega) m H.2.2.1 H.2.2.2.1
theorem k297 (d b k ck : Nat) (win : Nat → Nat) (fst : Int) (H : RG D nb m) (hb : b < nb) (hk : k < 100) (hf : fst = 0 ∨ fst = 1) (ih : ∀ c : Nat, c < nb → den (d + k + 2) 297 [(2, 129), (0, (c : Int)), (0, (k : Int)), (0, 1 - fst)] (Sg xs n D) = some ((0, bB ((win k).testBit c = true)), Sg xs n D)) (v : Int) : ∀ r i : Nat, ((i + r : Nat) : Int) = cntE (D 136) b m → ((∃ e : Nat, e < m ∧ D 136 e = b ∧ bB ((win k).testBit (D 137 e).toNat = true) = fst) → v = fst) → ((∀ j : Nat, i ≤ j → (j : Int) < cntE (D 136) b m → ¬ bB ((win k).testBit (D 137 (nthE (D 136) (fun z => z) b m m j)).toNat = true) = fst) → v = 1 - fst) → Rn (d + k + 2) 297 33 [some (2, 129), some (0, (b : Int)), some (0, ((k + 1 : Nat) : Int)), some (0, fst), some (0, (i : Int))] [] (Sg xs n D) = some ((0, v), Sg xs n D) := by
  have h16 := H.2.2.2.1
  have h8 := H.2.1
  have hcb := cntE_b (D 136) b m
  intro r
  induction r with
  | zero =>
    intro i hi h1 h2
    have hv := h2 (fun j a1 a2 => by omega)
    rw [h297_33, c235 (d + k + 1) (b : Int) m H.2.2.1 h16, cK0, pR0, h297_40, if_pos (by omega)]
    simp only [h297_92]
    obtain q | q := hf
    · rw [if_neg (by simp [q]), rz297.2, if_pos rfl, hv, q]
      rfl
    · rw [if_pos (by omega), rz297.1, if_pos rfl, hv, q]
      rfl
  | succ r ihr =>
    intro i hi h1 h2
    obtain ⟨e, a1, a2, a3⟩ := nth_ok (f := D 136) (g := fun z => z) (v := b) (m := m) (i := (i : Int)) (by omega) (by omega)
    have a3' : nthE (D 136) (fun z => z) b m m i = e := a3
    have f := (H.2.2.2.2 e a1)
    have c1 := ih (D 137 e).toNat (by omega)
    rw [Int.toNat_of_nonneg f.2.1] at c1
    rw [h297_33, c235 (d + k + 1) (b : Int) m H.2.2.1 h16, cK0, pR0, h297_40, if_neg (by omega), c236n (d + k + 1) b i H (by omega), cK0, pR0, h297_55, a3', if_pos (inb_t (by omega) (by omega)), show w32 (((k + 1 : Nat) : Int) - 1) = (k : Int) by rw [w32_idP (by omega) (by omega)]; omega]
    simp only [h297_68]
    have hif : (if ¬ fst = 0 then cK (den (d + k + 2) 297 [(2, 129), (0, D 137 e), (0, (k : Int)), (0, 0)] (Sg xs n D)) (fun v s1 => Rn (d + k + 2) 297 71 [some (2, 129), some (0, (b : Int)), some (0, ((k + 1 : Nat) : Int)), some (0, fst), some (0, (i : Int))] (pushR v []) s1) else cK (den (d + k + 2) 297 [(2, 129), (0, D 137 e), (0, (k : Int)), (0, 1)] (Sg xs n D)) (fun v s1 => Rn (d + k + 2) 297 71 [some (2, 129), some (0, (b : Int)), some (0, ((k + 1 : Nat) : Int)), some (0, fst), some (0, (i : Int))] (pushR v []) s1)) = cK (den (d + k + 2) 297 [(2, 129), (0, D 137 e), (0, (k : Int)), (0, 1 - fst)] (Sg xs n D)) (fun v s1 => Rn (d + k + 2) 297 71 [some (2, 129), some (0, (b : Int)), some (0, ((k + 1 : Nat) : Int)), some (0, fst), some (0, (i : Int))] (pushR v []) s1) := by
      obtain q | q := hf
      · rw [if_neg (by simp [q]), q]
        rfl
      · rw [if_pos (by omega), q]
        rfl
    rw [hif, c1, cK0, pR0, h297_71]
    by_cases c : bB ((win k).testBit (D 137 e).toNat = true) = fst
    · have hv := h1 ⟨e, a1, a2, c⟩
      rw [if_neg (by simp [c]), hv]
      obtain q | q := hf
      · rw [q, rz297.1, if_pos rfl]
      · rw [q, rz297.2, if_pos rfl]
    · rw [if_pos c, w1 (by omega)]
      refine ihr (i + 1) (by omega) h1 (fun w => h2 (fun j b1 b2 => ?_))
      by_cases q : j = i
      · subst q
        rw [a3']
        exact c
      · exact w j (by omega) b2
theorem c297 (ck N : Nat) (H : RG D nb m) (hc : D 153 0 = ck) (hc2 : ck < 256) (hN : N < 100) : ∀ (k d b : Nat), k ≤ N → b < nb → den (d + k + 2) 297 [(2, 129), (0, (b : Int)), (0, (k : Int)), (0, bB ((N - k) % 2 = 0))] (Sg xs n D) = some ((0, bB ((winI (nxD D m) nb N ck k).testBit b = true)), Sg xs n D) := by
  have h8 := H.2.1
  have h16 := H.2.2.2.1
  intro k
  induction k with
  | zero =>
    intro d b hk hb
    rw [n297, h297_0, hc, tb_val (by omega) (by omega), bB_if1]
    show _ = some ((0, bB (ck.testBit b = true)), _)
    by_cases c : ck.testBit b = true
    · rw [if_pos c, bB_t c]
    · rw [if_neg c, if_pos (by rfl), h297_28, bB_f c]
  | succ k ih =>
    intro d b hk hb
    have hwin : (winI (nxD D m) nb N ck (k + 1)).testBit b = true ↔ ck.testBit b = true ∨ (if (N - (k + 1)) % 2 = 0 then smI (nxD D m) (winI (nxD D m) nb N ck k) nb else alI (nxD D m) (winI (nxD D m) nb N ck k) nb).testBit b = true := by
      show (ck ||| _).testBit b = true ↔ _
      rw [or_t]
    rw [show d + (k + 1) + 2 = (d + k + 2) + 1 by omega, n297, h297_0, hc, tb_val (by omega) (by omega), bB_if1]
    by_cases c : ck.testBit b = true
    · rw [if_pos c, bB_t (hwin.mpr (Or.inl c))]
    · rw [if_neg c, if_neg (by omega), c235 (d + k + 1) (b : Int) m H.2.2.1 h16, cK0, pR0, h297_25, h297_28]
      have hcb := cntE_b (D 136) b m
      by_cases z : cntE (D 136) b m = 0
      · rw [if_neg (by simp [z])]
        have hno : ∀ e : Nat, e < m → ¬ D 136 e = b := fun e he w => by
          have := cnt_pos (f := D 136) (v := b) (k := e) m he w
          omega
        have : ¬ (winI (nxD D m) nb N ck (k + 1)).testBit b = true := by
          rw [hwin]
          intro w
          obtain w | w := w
          · exact c w
          · split at w
            · obtain ⟨e, e1, e2, _⟩ := (sm_e (RG_E H) hb).mp w
              exact hno e e1 e2
            · obtain ⟨⟨e, e1, e2⟩, _⟩ := (al_e (RG_E H) hb).mp w
              exact hno e e1 e2
        rw [bB_f this]
      · rw [if_pos z]
        by_cases p : (N - (k + 1)) % 2 = 0
        · have p2 : ¬ (N - k) % 2 = 0 := by omega
          rw [bB_t p]
          rw [if_pos p] at hwin
          refine k297 (xs := xs) (n := n) d b k ck (fun j => winI (nxD D m) nb N ck j) 1 H hb (by omega) (Or.inr rfl) (fun c hc => ?_) _ (cntE (D 136) b m).toNat 0 (by omega) ?_ ?_
          · have := ih d c (by omega) hc
            rw [bB_f p2] at this
            exact this
          · intro ⟨e, e1, e2, e3⟩
            apply bB_t
            rw [hwin]
            right
            rw [sm_e (RG_E H) hb]
            refine ⟨e, e1, e2, ?_⟩
            rw [bB_1] at e3
            exact e3
          · intro w
            show bB _ = 0
            apply bB_f
            rw [hwin]
            intro w2
            obtain w2 | w2 := w2
            · exact c w2
            · obtain ⟨e, e1, e2, e3⟩ := (sm_e (RG_E H) hb).mp w2
              obtain ⟨i, i1, i2⟩ := nth_all (f := D 136) (g := fun z => z) (v := b) (m := m) e1 e2
              have := w i (by omega) i1
              rw [i2, bB_1] at this
              exact this e3
        · have p2 : (N - k) % 2 = 0 := by omega
          rw [bB_f p]
          rw [if_neg p] at hwin
          refine k297 (xs := xs) (n := n) d b k ck (fun j => winI (nxD D m) nb N ck j) 0 H hb (by omega) (Or.inl rfl) (fun c hc => ?_) _ (cntE (D 136) b m).toNat 0 (by omega) ?_ ?_
          · have := ih d c (by omega) hc
            rw [bB_t p2] at this
            exact this
          · intro ⟨e, e1, e2, e3⟩
            apply bB_f
            rw [hwin]
            intro w2
            obtain w2 | w2 := w2
            · exact c w2
            · have := ((al_e (RG_E H) hb).mp w2).2 e e1 e2
              rw [bB_z] at e3
              exact e3 this
          · intro w
            show bB _ = 1
            apply bB_t
            rw [hwin]
            right
            rw [al_e (RG_E H) hb]
            constructor
            · obtain ⟨e, e1, e2, _⟩ := cnt_ex (f := D 136) (v := b) m 0 (by omega) (by omega)
              exact ⟨e, e1, e2⟩
            · intro e e1 e2
              obtain ⟨i, i1, i2⟩ := nth_all (f := D 136) (g := fun z => z) (v := b) (m := m) e1 e2
              have := w i (by omega) i1
              rw [i2, bB_z] at this
              exact Classical.byContradiction this
/-- the first edge from b into a set, in the reference's order -/
abbrev feP (D : Sto) (m b set : Nat) : Nat → Bool := fun i => set.testBit (D 137 (nthE (D 136) (fun z => z) b m m i)).toNat
abbrev feG (D : Sto) (m b : Nat) : Nat → Int := fun i => nthE (D 136) (fun z => z) b m m i
theorem c23 (d b set cn : Nat) (K : RelK D nb m) (X : RelX D nb m) (hb : b < nb) (hs : set < 256) (hcn : cntE (D 136) b m = cn) : den (d + 3) 23 [(2, 30), (0, (b : Int)), (0, (set : Int))] (Sg xs n D) = some ((0, fsI (feP D m b set) (feG D m b) cn cn), Sg xs n D) := by
  obtain ⟨⟨g1, g2, g3, g4⟩, hB, hS, h46, h45, hRB⟩ := RelK_G K
  have h8 := g1.2.1
  obtain ⟨⟨x1, x2⟩, x3, x4⟩ := X.1 b hb
  rw [hcn] at x1
  rw [x1] at x2 x3
  have h33 : ∀ b : Int, 0 ≤ b → b < D 30 0 → D 33 b ≤ 3 := by
    intro b h0 h1
    rw [g1.1] at h1
    have := (X.1 b.toNat (by omega)).1.2
    rw [Int.toNat_of_nonneg h0] at this
    exact this
  have key : ∀ r i : Nat, i + r = 3 → Rn (d + 2) 23 2 [some (2, 30), some (0, (b : Int)), some (0, (set : Int)), some (0, (i : Int)), none] [] (Sg xs n D) = some ((0, fsI (feP D m b set) (feG D m b) cn (cn - i)), Sg xs n D) := by
    intro r
    induction r with
    | zero =>
      intro i hi
      rw [h23_2, if_pos (by omega), show cn - i = 0 by omega]
      rfl
    | succ r ih =>
      intro i hi
      rw [h23_2, if_neg (by omega), c10 d (b : Int) (i : Int) (by rw [g1.1]; omega) (h33 b), cK0, pR0, h23_13, x1, g1.1]
      simp only [h23_37, w1 (show i < 2147483647 by omega)]
      by_cases c : i < cn
      · obtain ⟨e, a1, a2, a3⟩ := nth_ok (f := D 136) (g := fun z => z) (v := b) (m := m) (i := (i : Int)) (by omega) (by omega)
        have a3' : nthE (D 136) (fun z => z) b m m i = e := a3
        have f := (g2.2.2.2.2 e a1)
        have e2 := (g3 e a1).2
        have h16 := g2.2.2.2.1
        rw [show (if 0 ≤ (b : Int) ∧ (b : Int) < (nb : Int) ∧ 0 ≤ (i : Int) ∧ (i : Int) < (cn : Int) then D 37 ((b : Int) * 3 + i) else -1) = (e : Int) by rw [if_pos (by omega), x3 i (by omega)]; exact a3']
        rw [if_neg (by omega), if_pos (inb_t (by omega) (by omega)), e2]
        have c1 := c181 (xs := xs) (n := n) (D := D) (d + 1) set (D 137 e).toNat (by omega) (by omega)
        rw [Int.toNat_of_nonneg f.2.1] at c1
        rw [c1, cK0, pR0, h23_31, bB_if, h23_37, w1 (by omega), show cn - i = (cn - (i + 1)) + 1 by omega]
        rw [show fsI (feP D m b set) (feG D m b) cn (cn - (i + 1) + 1) = if feP D m b set (cn - (cn - (i + 1) + 1)) = true then feG D m b (cn - (cn - (i + 1) + 1)) else fsI (feP D m b set) (feG D m b) cn (cn - (i + 1)) from rfl, show cn - (cn - (i + 1) + 1) = i by omega]
        show _ = some ((0, if set.testBit (D 137 (nthE (D 136) (fun z => z) b m m i)).toNat = true then nthE (D 136) (fun z => z) b m m i else fsI (feP D m b set) (feG D m b) cn (cn - (i + 1))), Sg xs n D)
        rw [a3']
        by_cases q : set.testBit (D 137 e).toNat = true
        · rw [if_pos q, if_pos q]
        · rw [if_neg q, if_neg q]
          exact ih (i + 1) (by omega)
      · rw [show (if 0 ≤ (b : Int) ∧ (b : Int) < (nb : Int) ∧ 0 ≤ (i : Int) ∧ (i : Int) < (cn : Int) then D 37 ((b : Int) * 3 + i) else -1) = -1 by rw [if_neg (by omega)]]
        rw [if_pos (by decide), show cn - i = cn - (i + 1) by omega]
        exact ih (i + 1) (by omega)
  rw [n23, h23_0]
  have := key 3 0 (by omega)
  rw [Nat.sub_zero] at this
  exact this
theorem k298 (d b k ck cn : Nat) (H : RG D nb m) (hc : D 153 0 = ck) (hc2 : ck < 256) (hb : b < nb) (hk : k < 50) (hcn : cntE (D 136) b m = cn) : ∀ r i o3, i + r = cn → Rn (d + k + 2) 298 78 [some (2, 129), some (0, (b : Int)), some (0, ((k + 1 : Nat) : Int)), o3, some (0, (i : Int))] [] (Sg xs n D) = some ((0, fsI (feP D m b (winI (nxD D m) nb (k + 1) ck k)) (feG D m b) cn r), Sg xs n D) := by
  have h16 := H.2.2.2.1
  have h8 := H.2.1
  have hcb := cntE_b (D 136) b m
  intro r
  induction r with
  | zero =>
    intro i o3 hi
    rw [h298_78, c235 (d + k + 1) (b : Int) m H.2.2.1 h16, cK0, pR0, h298_85, if_pos (by omega)]
    rfl
  | succ r ih =>
    intro i o3 hi
    obtain ⟨e, a1, a2, a3⟩ := nth_ok (f := D 136) (g := fun z => z) (v := b) (m := m) (i := (i : Int)) (by omega) (by omega)
    have a3' : nthE (D 136) (fun z => z) b m m i = e := a3
    have f := (H.2.2.2.2 e a1)
    have c1 := c297 (xs := xs) (n := n) ck (k + 1) H hc hc2 (by omega) k d (D 137 e).toNat (by omega) (by omega)
    rw [Int.toNat_of_nonneg f.2.1, bB_f (show ¬ (k + 1 - k) % 2 = 0 by omega)] at c1
    rw [h298_78, c235 (d + k + 1) (b : Int) m H.2.2.1 h16, cK0, pR0, h298_85, if_neg (by omega), c236n (d + k + 1) b i H (by omega), cK0, pR0, h298_100, a3', if_pos (inb_t (by omega) (by omega)), show w32 (((k + 1 : Nat) : Int) - 1) = (k : Int) by rw [w32_idP (by omega) (by omega)]; omega, c1, cK0, pR0, h298_108, bB_if, c236n (d + k + 1) b i H (by omega), cK0, pR0, h298_118, w1 (by omega), a3']
    rw [show fsI (feP D m b (winI (nxD D m) nb (k + 1) ck k)) (feG D m b) cn (r + 1) = if feP D m b (winI (nxD D m) nb (k + 1) ck k) (cn - (r + 1)) = true then feG D m b (cn - (r + 1)) else fsI (feP D m b (winI (nxD D m) nb (k + 1) ck k)) (feG D m b) cn r from rfl, show cn - (r + 1) = i by omega]
    show _ = some ((0, if (winI (nxD D m) nb (k + 1) ck k).testBit (D 137 (nthE (D 136) (fun z => z) b m m i)).toNat = true then nthE (D 136) (fun z => z) b m m i else fsI (feP D m b (winI (nxD D m) nb (k + 1) ck k)) (feG D m b) cn r), Sg xs n D)
    rw [a3']
    by_cases q : (winI (nxD D m) nb (k + 1) ck k).testBit (D 137 e).toNat = true
    · rw [if_pos q, if_pos q]
    · rw [if_neg q, if_neg q]
      exact ih (i + 1) none (by omega)
theorem ts_leaders (R : Rel D) (d : Nat) (b k w : Int) : tws xs n (d + 40) 0 163 298 [(0, b), (0, k), (0, w)] D := by
  have R0 := R
  obtain ⟨nb, m, K, X⟩ := R
  obtain ⟨⟨g1, g2, g3, g4⟩, hB, hS, h46, h45, hRB⟩ := RelK_G K
  have h8 := g1.2.1
  have HN := NX_of K X
  have H0 : RG (up D 129 0 0) nb m := RG_0 g2
  have hM : mrk (up D 129 0 0) D := mrk_v (by decide)
  have en : nxD (up D 129 0 0) m = nxD D m := by
    unfold nxD
    rw [hM.2.2.1, hM.2.2.2.1]
  obtain ⟨ck, c1, c2, c3, c4⟩ := ck0 X.2.2.2.1 h8
  have c2' : up D 129 0 0 153 0 = ck := by rw [up_ne (by decide)]; exact c2
  by_cases h : (0 ≤ b ∧ b < (nb : Int)) ∧ (0 ≤ k ∧ k ≤ 9) ∧ (0 ≤ w ∧ w ≤ 1)
  · obtain ⟨hb, hk, hw⟩ := h
    have eb : (b.toNat : Int) = b := Int.toNat_of_nonneg hb.1
    have ek : (k.toNat : Int) = k := Int.toNat_of_nonneg hk.1
    have cA : ∀ l d', den (d' + 1) 181 [(0, (ck : Int)), (0, b)] (Sg xs n D) = some ((0, l), Sg xs n D) ↔ l = bB (ck.testBit b.toNat = true) := by
      intro l d'
      have := c181 (xs := xs) (n := n) (D := D) d' ck b.toNat (by omega) (by omega)
      rw [eb] at this
      rw [this]
      constructor
      · intro q; injection q with q; injection q with q; injection q with _ q; exact q.symm
      · intro q; rw [q]
    have cls : ∀ x, Rn (d + 39) 163 34 [some (2, 1), some (0, b), some (0, k), some (0, w), some (2, 30)] [(0, 1)] (Sg xs n D) = x → den (d + 40) 163 [(2, 1), (0, b), (0, k), (0, w)] (Sg xs n D) = x := by
      intro x hx
      rw [n163, h163_0, c6n (d + 38) b g1, bB_t hb, cK0, pR0, h163_15, if_neg (by decide), c179, bB_t hk, cK0, pR0, h163_25, if_neg (by decide), c179, bB_t hw, cK0, pR0]
      exact hx
    by_cases v : w = 0
    · have e1 := c22 (xs := xs) (n := n) (d + 36) k.toNat k.toNat ck HN c3 (Nat.le_refl _) (by omega)
      rw [ek] at e1
      have hwl := winI_lt (nx := nxD D m) (nb := nb) (n := k.toNat) h8 c3 k.toNat
      have e2 := c181 (xs := xs) (n := n) (D := D) (d + 38) (winI (nxD D m) nb k.toNat ck k.toNat) b.toNat (by omega) (by omega)
      rw [eb] at e2
      have e3 := c297 (xs := xs) (n := n) (D := up D 129 0 0) ck k.toNat H0 c2' c3 (by omega) k.toNat (d + 37 - k.toNat) b.toNat (Nat.le_refl _) (by omega)
      rw [ek, eb, bB_t (show (k.toNat - k.toNat) % 2 = 0 by omega), show d + 37 - k.toNat + k.toNat + 2 = d + 39 by omega, en] at e3
      refine tws_sim R0 (D1 := D) (D2 := up D 129 0 0) (a := if (winI (nxD D m) nb k.toNat ck k.toNat).testBit b.toNat = true then 0 else 1) ?_ ?_ sim_0
      · apply cls
        rw [h163_34, if_pos (by decide), if_neg (by simp [v]), c1, e1, cK0, pR0, h163_57, e2, cK0, pR0, h163_61, bB_if, h163_69, h163_69, if_s]
      · rw [n298, h298_0, c230n (d + 38) b H0, bB_t hb, cK0, pR0, h298_10, if_neg (by decide), if_neg (by omega), if_neg (by omega), if_neg (by omega), if_pos (by omega), if_neg (by simp [v]), e3, cK0, pR0, h298_45, bB_if, h298_53, h298_53, if_s]
    · by_cases z : k = 0 ∨ ck.testBit b.toNat = true
      · refine tws_sim R0 (D1 := D) (D2 := up D 129 0 0) (a := -2) ?_ ?_ sim_0
        · apply cls
          rw [h163_34, if_pos (by decide), if_pos v, c1, h163_88]
          by_cases z0 : k = 0
          · rw [if_pos z0]
          · have z1 : ck.testBit b.toNat = true := by
              obtain z | z := z
              · exact absurd z z0
              · exact z
            rw [if_neg z0, (cA 1 (d + 38)).mpr (bB_t z1).symm, cK0, pR0, h163_85, if_neg (by decide), h163_88]
        · have t := tb_val (x := ck) (b := b.toNat) (by omega) (by omega)
          rw [eb] at t
          rw [n298, h298_0, c230n (d + 38) b H0, bB_t hb, cK0, pR0, h298_10, if_neg (by decide), if_neg (by omega), if_neg (by omega), if_neg (by omega), if_pos (by omega), if_pos v, c2', t, h298_72]
          by_cases z1 : ck.testBit b.toNat = true
          · rw [bB_t z1, if_pos rfl]
          · have z0 : k = 0 := by
              obtain z | z := z
              · exact z
              · exact absurd z z1
            rw [bB_f z1, if_neg (by decide), if_neg (by simp [z0])]
      · have z0 : ¬ k = 0 := fun q => z (Or.inl q)
        have z1 : ¬ ck.testBit b.toNat = true := fun q => z (Or.inr q)
        have ek1 : ((k.toNat - 1 : Nat) : Int) = w32 (k - 1) := by rw [w32_idP (by omega) (by omega)]; omega
        have ek2 : k.toNat - 1 + 1 = k.toNat := by omega
        have hcb := cntE_b (D 136) b m
        have ecn : ((cntE (D 136) b m).toNat : Int) = cntE (D 136) b m := Int.toNat_of_nonneg hcb.1
        have e1 := c22 (xs := xs) (n := n) (d + 36) k.toNat (k.toNat - 1) ck HN c3 (by omega) (by omega)
        rw [ek, ek1] at e1
        have hwl := winI_lt (nx := nxD D m) (nb := nb) (n := k.toNat) h8 c3 (k.toNat - 1)
        have e2 := c23 (xs := xs) (n := n) (d + 36) b.toNat (winI (nxD D m) nb k.toNat ck (k.toNat - 1)) (cntE (D 136) b m).toNat K X (by omega) hwl (by rw [eb, ecn])
        rw [eb] at e2
        have e3 := k298 (xs := xs) (n := n) (D := up D 129 0 0) (d + 37 - (k.toNat - 1)) b.toNat (k.toNat - 1) ck (cntE (D 136) b m).toNat H0 c2' c3 (by omega) (by omega) (by rw [hM.2.2.1, eb, ecn]) (cntE (D 136) b m).toNat 0 (some (0, w)) (by omega)
        rw [eb, show d + 37 - (k.toNat - 1) + (k.toNat - 1) + 2 = d + 39 by omega, ek2, ek, en] at e3
        have ef : feP (up D 129 0 0) m b.toNat (winI (nxD D m) nb k.toNat ck (k.toNat - 1)) = feP D m b.toNat (winI (nxD D m) nb k.toNat ck (k.toNat - 1)) := by
          unfold feP
          rw [hM.2.2.1, hM.2.2.2.1]
        have eg : feG (up D 129 0 0) m b.toNat = feG D m b.toNat := by
          unfold feG
          rw [hM.2.2.1]
        rw [ef, eg] at e3
        refine tws_sim R0 (D1 := D) (D2 := up D 129 0 0) (a := fsI (feP D m b.toNat (winI (nxD D m) nb k.toNat ck (k.toNat - 1))) (feG D m b.toNat) (cntE (D 136) b m).toNat (cntE (D 136) b m).toNat) ?_ ?_ sim_0
        · apply cls
          rw [h163_34, if_pos (by decide), if_pos v, c1, if_neg z0, (cA 0 (d + 38)).mpr (bB_f z1).symm, cK0, pR0, h163_85, if_pos rfl, c1, e1, cK0, pR0, h163_110, e2, cK0, pR0, h163_113]
        · have t := tb_val (x := ck) (b := b.toNat) (by omega) (by omega)
          rw [eb] at t
          rw [n298, h298_0, c230n (d + 38) b H0, bB_t hb, cK0, pR0, h298_10, if_neg (by decide), if_neg (by omega), if_neg (by omega), if_neg (by omega), if_pos (by omega), if_pos v, c2', t, bB_f z1, if_neg (by decide), if_pos z0]
          exact e3
  · refine tws_sim R0 (D1 := D) (D2 := up D 129 0 0) (a := -1) ?_ ?_ sim_0
    · rw [n163, h163_0, c6n (d + 38) b g1, cK0, pR0, h163_15, bB_if, c179, cK0, pR0, h163_25, bB_if, c179, cK0, pR0, h163_34, h163_37]
      by_cases hb : 0 ≤ b ∧ b < (nb : Int)
      · rw [if_pos hb]
        by_cases hk : 0 ≤ k ∧ k ≤ 9
        · rw [if_pos hk, bB_f (fun q => h ⟨hb, hk, q⟩), if_neg (by decide)]
        · rw [if_neg hk]
      · rw [if_neg hb]
    · rw [n298, h298_0, c230n (d + 38) b H0, cK0, pR0, h298_10, bB_if, h298_32]
      by_cases hb : 0 ≤ b ∧ b < (nb : Int)
      · rw [if_pos hb]
        by_cases q1 : k < 0
        · rw [if_pos q1]
        · by_cases q2 : 9 < k
          · rw [if_neg q1, if_pos q2]
          · by_cases q3 : w < 0
            · rw [if_neg q1, if_neg q2, if_pos q3]
            · rw [if_neg q1, if_neg q2, if_neg q3, if_neg (fun q4 => h ⟨hb, by omega, by omega⟩)]
      · rw [if_neg hb]
end T67
