/-! States behind a slip: the reference's table -/
def exB (p : Nat → Bool) : Nat → Bool
  | 0 => false
  | k + 1 => p k || exB p k
theorem exB_t {p : Nat → Bool} : ∀ k, exB p k = true ↔ ∃ j, j < k ∧ p j = true := by
  intro k
  induction k with
  | zero =>
    constructor
    · intro h; cases h
    · intro ⟨j, h, _⟩; omega
  | succ k ih =>
    unfold exB
    rw [Bool.or_eq_true, ih]
    constructor
    · intro w
      obtain w | ⟨j, h1, h2⟩ := w
      · exact ⟨k, by omega, w⟩
      · exact ⟨j, by omega, h2⟩
    · intro ⟨j, h1, h2⟩
      by_cases e : j = k
      · subst e; exact Or.inl h2
      · exact Or.inr ⟨j, by omega, h2⟩
theorem cntP_ex {p q : Nat → Bool} : ∀ n, (∀ i, i < n → p i = q i) → cntP p n = cntP q n := by
  intro n
  induction n with
  | zero => intro _; rfl
  | succ n ih =>
    intro h
    unfold cntP
    rw [ih (fun i hi => h i (by omega)), h n (by omega)]
theorem cntP_one {p q : Nat → Bool} {i0 : Nat} : ∀ n, i0 < n → (∀ i, i < n → ¬ i = i0 → p i = q i) → p i0 = false → q i0 = true → cntP q n = cntP p n + 1 := by
  intro n
  induction n with
  | zero => intro h; omega
  | succ n ih =>
    intro h0 h1 h2 h3
    unfold cntP
    by_cases e : i0 = n
    · subst e
      rw [h2, h3, cntP_ex i0 (fun i hi => (h1 i (by omega) (by omega)).symm)]
      simp
    · rw [ih (by omega) (fun i hi => h1 i (by omega)) h2 h3, h1 n (by omega) (by omega)]
      omega
theorem cntP_z {p : Nat → Bool} : ∀ n, (∀ i, i < n → p i = false) → cntP p n = 0 := by
  intro n
  induction n with
  | zero => intro _; rfl
  | succ n ih =>
    intro h
    unfold cntP
    rw [ih (fun i hi => h i (by omega)), h n (by omega)]
    rfl
def inT (G : Sto) (s : Nat) (D : Sto) (e : Nat) : Bool := exB (fun j => decide (G 157 j = D 137 e) && decide (G 159 j = D 162 e)) s
theorem inT_t {G D : Sto} {s e : Nat} : inT G s D e = true ↔ ∃ j : Nat, j < s ∧ G 157 j = D 137 e ∧ G 159 j = D 162 e := by
  unfold inT
  rw [exB_t]
  constructor
  · intro ⟨j, h1, h2⟩
    rw [Bool.and_eq_true, decide_eq_true_eq, decide_eq_true_eq] at h2
    exact ⟨j, h1, h2⟩
  · intro ⟨j, h1, h2⟩
    refine ⟨j, h1, ?_⟩
    rw [Bool.and_eq_true, decide_eq_true_eq, decide_eq_true_eq]
    exact h2
def ofS (G D : Sto) : Prop := ∀ z j : Int, ¬ (157 ≤ z ∧ z ≤ 161) → ¬ (z = 129 ∧ (j = 55 ∨ j = 56)) → G z j = D z j
def SI (G D : Sto) (nb m s X ck : Nat) (cn : Nat → Bool) : Prop := ofS G D ∧ (G 129 55 = s ∧ G 129 56 = ck ∧ 1 ≤ s) ∧ (∀ j : Nat, j < s → (0 ≤ G 157 j ∧ G 157 j < nb) ∧ G 158 j = ((X ^^^ sN D (G 157 j) : Nat) : Int)) ∧ s = 1 + cntP (fun e => cn e && inT G s D e) m
/-- each state that may come has one edge that stands for it -/
def CN (D : Sto) (m : Nat) (b0 a0 : Int) (al cn : Nat → Bool) : Prop := (∀ e : Nat, e < m → cn e = true → ¬ (D 137 e = b0 ∧ D 162 e = a0)) ∧ ∀ e : Nat, e < m → al e = true → ¬ (D 137 e = b0 ∧ D 162 e = a0) → ∃ e0 : Nat, e0 < m ∧ cn e0 = true ∧ (D 137 e0 = D 137 e ∧ D 162 e0 = D 162 e) ∧ ∀ e1 : Nat, e1 < m → cn e1 = true → D 137 e1 = D 137 e → D 162 e1 = D 162 e → e1 = e0
def Ext (G G' : Sto) (s s' : Nat) : Prop := (s ≤ s' ∧ s' ≤ s + 1) ∧ (∀ (z : Int) (j : Nat), 157 ≤ z → z ≤ 161 → j < s → G' z j = G z j) ∧ (∀ j : Nat, s ≤ j → j < s' → G' 160 j = -1 ∧ G' 161 j = 0)
def nwS (G : Sto) (s : Nat) (t w a : Int) : Sto := up (up (up (up (up (up G 157 s t) 158 s w) 159 s a) 160 s (-1)) 161 s 0) 129 55 ((s + 1 : Nat) : Int)
section S69
variable {xs : Int → Int} {n : Int × Int} {D G : Sto} {nb m s X ck : Nat} {cn al : Nat → Bool} {b0 a0 : Int}
theorem nwS_s {t w a : Int} : nwS G s t w a 157 s = t ∧ nwS G s t w a 158 s = w ∧ nwS G s t w a 159 s = a ∧ nwS G s t w a 160 s = -1 ∧ nwS G s t w a 161 s = 0 ∧ nwS G s t w a 129 55 = ((s + 1 : Nat) : Int) := by
  unfold nwS up
  simp
theorem nwS_o {t w a z j : Int} (h1 : ¬ ((157 ≤ z ∧ z ≤ 161) ∧ j = s)) (h2 : ¬ (z = 129 ∧ j = 55)) : nwS G s t w a z j = G z j := by
  unfold nwS up
  rw [if_neg (by omega), if_neg (by omega), if_neg (by omega), if_neg (by omega), if_neg (by omega), if_neg (by omega)]
theorem ofS_m2 (h : ofS G D) : m2 G D := by
  have f : ∀ z : Int, ¬ (157 ≤ z ∧ z ≤ 161) → ¬ z = 129 → G z = D z := fun z h1 h2 => funext (fun j => h z j h1 (fun w => h2 w.1))
  exact ⟨⟨f 131 (by decide) (by decide), f 135 (by decide) (by decide), f 136 (by decide) (by decide), f 137 (by decide) (by decide), f 154 (by decide) (by decide), f 156 (by decide) (by decide), h 129 45 (by decide) (by decide)⟩, h 129 46 (by decide) (by decide), h 129 47 (by decide) (by decide)⟩
theorem ofS_z (h : ofS G D) (z j : Int) (h1 : ¬ (157 ≤ z ∧ z ≤ 161)) (h2 : ¬ z = 129) : G z j = D z j := h z j h1 (fun w => h2 w.1)
theorem SI_le (I : SI G D nb m s X ck cn) (h16 : m ≤ 16) : s ≤ 17 := by
  have := cntP_le (fun e => cn e && inT G s D e) m
  have := I.2.2.2
  omega
theorem SI_new (I : SI G D nb m s X ck cn) (C : CN D m b0 a0 al cn) (hb : G 157 0 = b0) (ha : G 159 0 = a0) {e : Nat} (he : e < m) (hal : al e = true) (ht : 0 ≤ D 137 e ∧ D 137 e < nb) (hno : ∀ j : Nat, j < s → ¬ (G 157 j = D 137 e ∧ G 159 j = D 162 e)) : SI (nwS G s (D 137 e) ((X ^^^ sN D (D 137 e) : Nat) : Int) (D 162 e)) D nb m (s + 1) X ck cn := by
  obtain ⟨i1, ⟨i2, i3, i4⟩, i5, i6⟩ := I
  have nw := nwS_s (G := G) (s := s) (t := D 137 e) (w := ((X ^^^ sN D (D 137 e) : Nat) : Int)) (a := D 162 e)
  have no : ∀ (z : Int) (j : Nat), j < s → ¬ z = 129 → nwS G s (D 137 e) ((X ^^^ sN D (D 137 e) : Nat) : Int) (D 162 e) z j = G z j := fun z j hj hz => nwS_o (by omega) (fun w => hz w.1)
  refine ⟨?_, ⟨nw.2.2.2.2.2, ?_, by omega⟩, ?_, ?_⟩
  · intro z j h1 h2
    rw [nwS_o (fun w => h1 w.1) (by omega)]
    exact i1 z j h1 h2
  · rw [nwS_o (by omega) (by omega)]
    exact i3
  · intro j hj
    by_cases q : j = s
    · subst q
      rw [nw.1, nw.2.1]
      exact ⟨ht, rfl⟩
    · rw [no 157 j (by omega) (by decide), no 158 j (by omega) (by decide)]
      exact i5 j (by omega)
  · have hland : ¬ (D 137 e = b0 ∧ D 162 e = a0) := fun w => hno 0 (by omega) ⟨by rw [w.1]; exact hb, by rw [w.2]; exact ha⟩
    obtain ⟨e0, c1, c2, c3, c4⟩ := C.2 e he hal hland
    have key : ∀ e' : Nat, inT (nwS G s (D 137 e) ((X ^^^ sN D (D 137 e) : Nat) : Int) (D 162 e)) (s + 1) D e' = true ↔ inT G s D e' = true ∨ (D 137 e' = D 137 e ∧ D 162 e' = D 162 e) := by
      intro e'
      rw [inT_t, inT_t]
      constructor
      · intro ⟨j, h1, h2, h3⟩
        by_cases q : j = s
        · subst q
          rw [nw.1] at h2
          rw [nw.2.2.1] at h3
          exact Or.inr ⟨h2.symm, h3.symm⟩
        · rw [no 157 j (by omega) (by decide)] at h2
          rw [no 159 j (by omega) (by decide)] at h3
          exact Or.inl ⟨j, by omega, h2, h3⟩
      · intro w
        obtain ⟨j, h1, h2, h3⟩ | ⟨h1, h2⟩ := w
        · refine ⟨j, by omega, ?_, ?_⟩
          · rw [no 157 j h1 (by decide)]; exact h2
          · rw [no 159 j h1 (by decide)]; exact h3
        · exact ⟨s, by omega, by rw [nw.1, h1], by rw [nw.2.2.1, h2]⟩
    have := cntP_one (p := fun e => cn e && inT G s D e) (q := fun e' => cn e' && inT (nwS G s (D 137 e) ((X ^^^ sN D (D 137 e) : Nat) : Int) (D 162 e)) (s + 1) D e') (i0 := e0) m c1 (by
      intro i hi hne
      show (cn i && inT G s D i) = (cn i && inT _ (s + 1) D i)
      by_cases q : cn i = true
      · rw [q, Bool.true_and, Bool.true_and]
        apply Bool.eq_iff_iff.mpr
        rw [key]
        constructor
        · intro w; exact Or.inl w
        · intro w
          obtain w | w := w
          · exact w
          · exact absurd (c4 i hi q w.1 w.2) hne
      · have : cn i = false := Bool.eq_false_iff.mpr q
        rw [this, Bool.false_and, Bool.false_and]) (by
      show (cn e0 && inT G s D e0) = false
      have : inT G s D e0 = false := by
        apply Bool.eq_false_iff.mpr
        intro w
        obtain ⟨j, h1, h2, h3⟩ := inT_t.mp w
        exact hno j h1 ⟨by rw [h2, c3.1], by rw [h3, c3.2]⟩
      rw [this, Bool.and_false]) (by
      show (cn e0 && inT _ (s + 1) D e0) = true
      rw [c2, Bool.true_and, key]
      exact Or.inr c3)
    omega
theorem c270 (d : Nat) (I : SI G D nb m s X ck cn) (C : CN D m b0 a0 al cn) (h16 : m ≤ 16) (hb : G 157 0 = b0) (ha : G 159 0 = a0) {e : Nat} (he : e < m) (hal : al e = true) (ht : 0 ≤ D 137 e ∧ D 137 e < nb) : ∃ (G' : Sto) (s' j : Nat), (SI G' D nb m s' X ck cn ∧ Ext G G' s s') ∧ (j < s' ∧ G' 157 j = D 137 e ∧ G' 159 j = D 162 e ∧ ((G' = G ∧ j < s ∧ s' = s) ∨ (j = s ∧ s' = s + 1))) ∧ den (d + 1) 270 [(2, 129), (0, D 137 e), (0, ((X ^^^ sN D (D 137 e) : Nat) : Int)), (0, D 162 e)] (Sg xs n G) = some ((0, (j : Int)), Sg xs n G') := by
  have hs := SI_le I h16
  have I' := I
  obtain ⟨i1, ⟨i2, i3, i4⟩, i5, i6⟩ := I
  have key : ∀ r j, j + r = s → (∀ k : Nat, k < j → ¬ (G 157 k = D 137 e ∧ G 159 k = D 162 e)) → ∃ (G' : Sto) (s' j' : Nat), (SI G' D nb m s' X ck cn ∧ Ext G G' s s') ∧ (j' < s' ∧ G' 157 j' = D 137 e ∧ G' 159 j' = D 162 e ∧ ((G' = G ∧ j' < s ∧ s' = s) ∨ (j' = s ∧ s' = s + 1))) ∧ Rn d 270 3 [some (2, 129), some (0, D 137 e), some (0, ((X ^^^ sN D (D 137 e) : Nat) : Int)), some (0, D 162 e), some (0, (j : Int))] [] (Sg xs n G) = some ((0, (j' : Int)), Sg xs n G') := by
    intro r
    induction r with
    | zero =>
      intro j hj hno
      obtain rfl : j = s := by omega
      have nw := nwS_s (G := G) (s := j) (t := D 137 e) (w := ((X ^^^ sN D (D 137 e) : Nat) : Int)) (a := D 162 e)
      refine ⟨nwS G j (D 137 e) ((X ^^^ sN D (D 137 e) : Nat) : Int) (D 162 e), j + 1, j, ⟨SI_new I' C hb ha he hal ht hno, ⟨by omega, by omega⟩, ?_, ?_⟩, ⟨by omega, nw.1, nw.2.2.1, Or.inr ⟨rfl, rfl⟩⟩, ?_⟩
      · intro z k h1 h2 h3
        exact nwS_o (by omega) (by omega)
      · intro k h1 h2
        obtain rfl : k = j := by omega
        exact ⟨nw.2.2.2.1, nw.2.2.2.2.1⟩
      · rw [h270_3, i2, if_pos (by omega), inb_t (show (0 : Int) ≤ (j : Int) by omega) (show (j : Int) < 600 by omega), if_pos rfl, if_pos rfl, if_pos rfl, if_pos rfl, if_pos rfl, w1 (by omega), show w32 (((j + 1 : Nat) : Int) - 1) = (j : Int) by rw [w32_idP (by omega) (by omega)]; omega]
        rfl
    | succ r ih =>
      intro j hj hno
      have g := i5 j (by omega)
      rw [h270_3, i2, if_neg (by omega), inb_t (show (0 : Int) ≤ (j : Int) by omega) (show (j : Int) < 600 by omega), if_pos rfl, if_pos rfl, if_pos rfl, h270_48, w1 (by omega)]
      by_cases c1 : G 157 j = D 137 e
      · rw [if_neg (fun w => w c1)]
        have c2 : G 158 j = ((X ^^^ sN D (D 137 e) : Nat) : Int) := by rw [g.2, c1]
        rw [if_neg (fun w => w c2)]
        by_cases c3 : G 159 j = D 162 e
        · rw [if_neg (fun w => w c3)]
          exact ⟨G, s, j, ⟨I', ⟨Nat.le_refl s, by omega⟩, fun _ _ _ _ _ => rfl, fun k h1 h2 => by omega⟩, ⟨by omega, c1, c3, Or.inl ⟨rfl, by omega, rfl⟩⟩, rfl⟩
        · rw [if_pos c3]
          refine ih (j + 1) (by omega) (fun k hk w => ?_)
          by_cases q : k = j
          · subst q; exact c3 w.2
          · exact hno k (by omega) w
      · rw [if_pos c1]
        refine ih (j + 1) (by omega) (fun k hk w => ?_)
        by_cases q : k = j
        · subst q; exact c1 w.1
        · exact hno k (by omega) w
  rw [n270, h270_0]
  exact key s 0 (by omega) (fun k hk => by omega)
theorem c273 (d : Nat) (L : LN D nb m) (hG : ofS G D) (c e : Nat) (w : Int) (hc : c < nb) (h8 : nb ≤ 8) (he : e < m) (h16 : m ≤ 16) {r : Vv × Stt} {j : Int} {G' : Sto} (h : den (d + 1) 270 [(2, 129), (0, (c : Int)), (0, i_xor (i_xor w (rdf D m 0 c)) (if 1 < cntE (D 137) c m then raj D m 0 e else 0)), (0, D 162 e)] (Sg xs n G) = some ((0, j), Sg xs n G')) : den (d + 2) 273 [(2, 129), (0, (c : Int)), (0, w), (0, (e : Int))] (Sg xs n G) = some ((0, j), Sg xs n G') := by
  obtain ⟨q1, q2, q3, q4⟩ := L.1 c hc
  have q5 := L.2 e he
  rw [n273, h273_0, ofS_z hG 164 _ (by decide) (by decide), ofS_z hG 163 _ (by decide) (by decide), ofS_z hG 162 _ (by decide) (by decide), q1, q2, inb_t (show (0 : Int) ≤ (c : Int) by omega) (show (c : Int) < 8 by omega), inb_t (show (0 : Int) ≤ (e : Int) by omega) (show (e : Int) < 16 by omega), if_pos rfl, if_pos rfl, if_pos rfl, bB_if]
  simp only [h273_29, ofS_z hG 162 _ (show ¬ (157 ≤ (162 : Int) ∧ (162 : Int) ≤ 161) by decide) (show ¬ (162 : Int) = 129 by decide), inb_t (show (0 : Int) ≤ (e : Int) by omega) (show (e : Int) < 16 by omega), if_true]
  by_cases t : 1 < cntE (D 137) c m
  · rw [if_pos t] at h
    rw [if_pos t, q5]
    rw [q5] at h
    rw [h, cK0, pR0, h273_39]
  · rw [if_neg t] at h
    rw [if_neg t, h, cK0, pR0, h273_39]
theorem c274 (d : Nat) (B : BS D nb m) (L : LN D nb m) (I : SI G D nb m s X ck cn) (C : CN D m b0 a0 al cn) (hX : X < 256) (hb : G 157 0 = b0) (ha : G 159 0 = a0) {k i e : Nat} (hk : k < s) (hi : (i : Int) < cntE (D 136) (G 157 k) m) (he : e < m) (hF : D 136 e = G 157 k) (hn : nthE (D 136) (fun z => z) (G 157 k) m m i = e) (hal : al e = true) : ∃ (G' : Sto) (s' j : Nat), (SI G' D nb m s' X ck cn ∧ Ext G G' s s') ∧ (j < s' ∧ G' 157 j = D 137 e ∧ G' 159 j = D 162 e ∧ ((G' = G ∧ j < s ∧ s' = s) ∨ (j = s ∧ s' = s + 1))) ∧ den (d + 3) 274 [(2, 129), (0, (k : Int)), (0, (i : Int))] (Sg xs n G) = some ((0, (j : Int)), Sg xs n G') := by
  have h16 := B.1.1.2.2.2.1
  have h8 := B.1.1.2.1
  have hs := SI_le I h16
  obtain ⟨g1, g2⟩ := I.2.2.1 k hk
  obtain ⟨f1, f2⟩ := B.1.1.2.2.2.2 e he
  have eg : ((G 157 k).toNat : Int) = G 157 k := Int.toNat_of_nonneg g1.1
  obtain ⟨q1, q2, q3, q4⟩ := L.1 (G 157 k).toNat (by omega)
  have c3 := (B.2.2.1 (G 157 k).toNat (by omega)).2
  rw [eg] at q4 c3
  have q5 := q4 i hi
  rw [hn] at q5
  obtain ⟨G', s', j, a1, a2, a3⟩ := c270 (xs := xs) (n := n) d I C h16 hb ha he hal f2
  refine ⟨G', s', j, a1, a2, ?_⟩
  have et : ((D 137 e).toNat : Int) = D 137 e := Int.toNat_of_nonneg f2.1
  have l1 := land_eq B he hX
  rw [hF, ← g2] at l1
  have a4 := c273 (xs := xs) (n := n) (G := G) d L I.1 (D 137 e).toNat e (G 158 k) (by omega) h8 he h16 (r := ((0, 0), Sg xs n G)) (j := (j : Int)) (G' := G') (by rw [et, l1]; exact a3)
  rw [et] at a4
  rw [n274, h274_0, w32_idP (z := 3 * G 157 k) (by omega) (by omega), w32_idP (z := 3 * G 157 k + i) (by omega) (by omega), inb_t (show (0 : Int) ≤ (k : Int) by omega) (show (k : Int) < 600 by omega), if_pos rfl, if_pos rfl, if_pos (inb_t (by omega) (by omega)), ofS_z I.1 166 _ (by decide) (by decide), q5, if_pos (inb_t (by omega) (by omega)), ofS_z I.1 137 _ (by decide) (by decide), a4, cK0, pR0, h274_33]
theorem xor_a {a b : Nat} : a ^^^ b = b ↔ a = 0 := by
  constructor
  · intro h
    have : a = (a ^^^ b) ^^^ b := by rw [Nat.xor_assoc, Nat.xor_self, Nat.xor_zero]
    rw [this, h, Nat.xor_self]
  · intro h; rw [h, Nat.zero_xor]
def ceX (X ck : Nat) : Nat := if X = 0 then 0 else ck
theorem c271 (d : Nat) (B : BS D nb m) (I : SI G D nb m s X ck cn) (hc : ck < 256) {k : Nat} (hk : k < s) : den (d + 3) 271 [(2, 129), (0, (k : Int))] (Sg xs n G) = some ((0, bB ((ceX X ck).testBit (G 157 k).toNat = true)), Sg xs n G) := by
  have h16 := B.1.1.2.2.2.1
  have h8 := B.1.1.2.1
  have hs := SI_le I h16
  obtain ⟨g1, g2⟩ := I.2.2.1 k hk
  have eg : ((G 157 k).toNat : Int) = G 157 k := Int.toNat_of_nonneg g1.1
  have e1 := c245 (xs := xs) (n := n) (D := G) d ck (G 157 k).toNat 0 (G 158 k) (by omega) (by omega) (by omega) (by omega)
  rw [eg, mrk_sg (ofS_m2 I.1).1 (ofS_m2 I.1).2.1 (ofS_m2 I.1).2.2] at e1
  obtain ⟨s1, s2⟩ := sN_eq B g1.1 g1.2
  have hr : ret01 271 0 = true ∧ ret01 271 1 = true := ⟨rfl, rfl⟩
  rw [n271, h271_0, inb_t (show (0 : Int) ≤ (k : Int) by omega) (show (k : Int) < 600 by omega), if_pos rfl, if_pos rfl, I.2.1.2.1, e1, cK0, pR0, h271_21]
  have hiff : (ck.testBit (G 157 k).toNat = true ∧ ¬ G 158 k = rsg D 0 (G 157 k)) ↔ (ceX X ck).testBit (G 157 k).toNat = true := by
    rw [g2, s1]
    unfold ceX
    by_cases hx : X = 0
    · rw [if_pos hx, hx, Nat.zero_xor, Nat.zero_testBit]
      simp
    · rw [if_neg hx]
      constructor
      · intro w; exact w.1
      · intro w
        refine ⟨w, fun q => hx ?_⟩
        exact xor_a.mp (Int.ofNat.inj q)
  by_cases q : (ceX X ck).testBit (G 157 k).toNat = true
  · rw [bB_t (hiff.mpr q), bB_t q, hr.2, if_pos rfl]
  · rw [bB_f (fun w => q (hiff.mp w)), bB_f q, hr.1, if_pos rfl]
/-- the table with the slip alone -/
theorem c275 (d : Nat) (B : BS D nb m) (L : LN D nb m) (hG : ofS G D) (e b ck : Nat) (he : e < m) (hb : b < nb) : ∃ G', ofS G' D ∧ (G' 129 55 = 1 ∧ G' 129 56 = ck) ∧ (G' 157 0 = b ∧ G' 158 0 = rmk D m e b ∧ G' 159 0 = D 162 e ∧ G' 160 0 = -1 ∧ G' 161 0 = 0) ∧ den (d + 3) 275 [(2, 129), (0, (e : Int)), (0, (b : Int)), (0, (ck : Int))] (Sg xs n G) = some ((9, 0), Sg xs n G') := by
  have h16 := B.1.1.2.2.2.1
  have h8 := B.1.1.2.1
  obtain ⟨f1, f2⟩ := B.1.1.2.2.2.2 e he
  let G1 := up (up G 129 55 0) 129 56 ck
  have hG1 : ofS G1 D := by
    intro z j h1 h2
    show up (up G 129 55 0) 129 56 ck z j = D z j
    have : up (up G 129 55 0) 129 56 ck z j = G z j := by
      unfold up
      rw [if_neg (by omega), if_neg (by omega)]
    rw [this]
    exact hG z j h1 h2
  have g55 : G1 129 55 = 0 := by show up (up G 129 55 0) 129 56 ck 129 55 = 0; rw [up_ni (by decide), up_at]
  have g56 : G1 129 56 = ck := up_at
  have nw := nwS_s (G := G1) (s := 0) (t := (b : Int)) (w := rmk D m e b) (a := D 162 e)
  have e1 : den (d + 1) 270 [(2, 129), (0, (b : Int)), (0, i_xor (i_xor (rsg D 0 (D 136 e)) (rdf D m 0 b)) (if 1 < cntE (D 137) b m then raj D m 0 e else 0)), (0, D 162 e)] (Sg xs n G1) = some ((0, 0), Sg xs n (nwS G1 0 (b : Int) (rmk D m e b) (D 162 e))) := by
    rw [n270, h270_0, h270_3, g55, if_pos (by decide), inb_t (show (0 : Int) ≤ 0 by decide) (show (0 : Int) < 600 by decide), if_pos rfl, if_pos rfl, if_pos rfl, if_pos rfl, if_pos rfl]
    rfl
  have e2 := c273 (xs := xs) (n := n) d L hG1 b e (rsg D 0 (D 136 e)) hb h8 he h16 (r := ((0, 0), Sg xs n G)) e1
  have e3 := c233' (xs := xs) (n := n) (D := G1) (d + 1) 0 (D 136 e) (by decide) (by decide) f1.1 (by omega)
  rw [mrk_sg (ofS_m2 hG1).1 (ofS_m2 hG1).2.1 (ofS_m2 hG1).2.2] at e3
  refine ⟨nwS G1 0 (b : Int) (rmk D m e b) (D 162 e), ?_, ⟨nw.2.2.2.2.2, ?_⟩, ⟨nw.1, nw.2.1, nw.2.2.1, nw.2.2.2.1, nw.2.2.2.2.1⟩, ?_⟩
  · intro z j h1 h2
    rw [nwS_o (by omega) (by omega)]
    exact hG1 z j h1 h2
  · rw [nwS_o (by omega) (by omega)]
    exact g56
  · rw [n275, h275_0, if_pos (inb_t (by omega) (by omega)), ofS_z hG 136 _ (by decide) (by decide)]
    show cK (den (d + 2) 233 [(2, 129), (0, 0), (0, D 136 e)] (Sg xs n G1)) _ = _
    rw [e3, cK0, pR0, h275_23, e2, cK0, pR0, h275_27]
/-- how a slip's mark and the sign differ -/
def xD (D : Sto) (m e b : Nat) : Nat := (rmk D m e b).toNat ^^^ sN D b
theorem rmk_lt (B : BS D nb m) {e b : Nat} (he : e < m) (hb : b < nb) : 0 ≤ rmk D m e b ∧ rmk D m e b < 256 := by
  have x2 : ∀ {a c : Int}, 0 ≤ a ∧ a < 256 → 0 ≤ c ∧ c < 256 → 0 ≤ i_xor a c ∧ i_xor a c < 256 := fun h1 h2 => xr256 h1 h2
  have sg : ∀ c : Int, 0 ≤ c → c < nb → 0 ≤ rsg D 0 c ∧ rsg D 0 c < 256 := by
    intro c h0 h1
    have := B.2.1 c.toNat (by omega)
    rw [Int.toNat_of_nonneg h0] at this
    exact this
  obtain ⟨f1, f2⟩ := B.1.1.2.2.2.2 e he
  have hp := cnt_pos (f := D 137) (v := D 137 e) (k := e) m he rfl
  have r0 := B.1.2 b hb
  have r0' := (B.2.2.1 b hb).1
  have r1 := B.1.2 (D 137 e).toNat (by omega)
  have r2 := (B.2.2.1 (D 137 e).toNat (by omega)).1
  rw [Int.toNat_of_nonneg f2.1] at r1 r2
  have hd : 0 ≤ rdf D m 0 b ∧ rdf D m 0 b < 256 := by
    unfold rdf
    split
    · exact sg _ (by omega) (by omega)
    · exact x2 (sg _ (by omega) (by omega)) (sg _ (by omega) (by omega))
  have ha : 0 ≤ raj D m 0 e ∧ raj D m 0 e < 256 := by
    unfold raj
    split
    · omega
    · exact x2 (sg _ (r1.2.2.1 hp) (by omega)) (sg _ f1.1 f1.2)
  unfold rmk rmb
  apply x2 (x2 (sg _ f1.1 f1.2) hd)
  split
  · exact ha
  · omega
theorem xD_s (B : BS D nb m) {e b : Nat} (he : e < m) (hb : b < nb) : xD D m e b < 256 ∧ rmk D m e b = ((xD D m e b ^^^ sN D b : Nat) : Int) ∧ (xD D m e b = 0 ↔ rmk D m e b = rsg D 0 b) := by
  obtain ⟨h0, h1⟩ := rmk_lt B he hb
  obtain ⟨s1, s2⟩ := sN_eq B (b := (b : Int)) (by omega) (by omega)
  have e1 : xD D m e b ^^^ sN D b = (rmk D m e b).toNat := by
    unfold xD
    rw [Nat.xor_assoc, Nat.xor_self, Nat.xor_zero]
  refine ⟨xor_256 (by omega) s2, by rw [e1]; omega, ?_⟩
  rw [s1]
  constructor
  · intro h
    rw [h, Nat.zero_xor] at e1
    omega
  · intro h
    unfold xD
    rw [h, Int.toNat_natCast, Nat.xor_self]
theorem SI_1 (B : BS D nb m) {G' : Sto} {e b : Nat} (he : e < m) (hb : b < nb) (hG : ofS G' D) (h1 : G' 129 55 = 1 ∧ G' 129 56 = ck) (h2 : G' 157 0 = b ∧ G' 158 0 = rmk D m e b ∧ G' 159 0 = D 162 e) (C : CN D m b (D 162 e) al cn) : SI G' D nb m 1 (xD D m e b) ck cn := by
  obtain ⟨x1, x2, x3⟩ := xD_s B he hb
  refine ⟨hG, ⟨h1.1, h1.2, Nat.le_refl 1⟩, ?_, ?_⟩
  · intro j hj
    obtain rfl : j = 0 := by omega
    show (0 ≤ G' 157 0 ∧ G' 157 0 < nb) ∧ G' 158 0 = ((xD D m e b ^^^ sN D (G' 157 0) : Nat) : Int)
    rw [h2.1, h2.2.1]
    exact ⟨by omega, x2⟩
  · rw [cntP_z m (fun i hi => ?_)]
    by_cases q : cn i = true
    · rw [q, Bool.true_and]
      apply Bool.eq_false_iff.mpr
      intro w
      obtain ⟨j, j1, j2, j3⟩ := inT_t.mp w
      obtain rfl : j = 0 := by omega
      have j2' : G' 157 0 = D 137 i := j2
      have j3' : G' 159 0 = D 162 i := j3
      rw [h2.1] at j2'
      rw [h2.2.2] at j3'
      exact C.1 i hi q ⟨j2'.symm, j3'.symm⟩
    · have : cn i = false := Bool.eq_false_iff.mpr q
      rw [this, Bool.false_and]
end S69
