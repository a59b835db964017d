/-! Text: numbers -/
def nuC (f : Int → Int) (N : Int) : Nat → Int → Int → Int
  | 0, _, v => v
  | k + 1, i, v => if i < N ∧ isD (f i) = true then nuC f N k (i + 1) (min (v * 10 + f i - 48) 999990) else v
def nuR (f : Int → Int) (N : Int) : Nat → Int → Int → Int
  | 0, _, v => v
  | k + 1, i, v => if i < N ∧ isD (f i) = true then nuR f N k (i + 1) (if 99999 < v then v else 10 * v + f i - 48) else v
/-- two numbers that no line tells apart -/
def nuE (v w : Int) : Prop := (v = w ∧ 0 ≤ v) ∨ (99999 < v ∧ 99999 < w)
theorem isD_b {c : Int} (h : isD c = true) : 48 ≤ c ∧ c ≤ 57 := by
  unfold isD at h
  rw [Bool.and_eq_true, decide_eq_true_eq, decide_eq_true_eq] at h
  exact h
theorem isL_b {c : Int} (h : isL c = true) : 97 ≤ c ∧ c ≤ 122 := by
  unfold isL at h
  rw [Bool.and_eq_true, decide_eq_true_eq, decide_eq_true_eq] at h
  exact h
theorem nu_eq {f g : Int → Int} {N : Int} : ∀ (k : Nat) (i v w : Int), (∀ j : Int, i ≤ j → j < N → f j = g j) → nuE v w → nuE (nuC f N k i v) (nuR g N k i w) := by
  intro k
  induction k with
  | zero => intro i v w _ h; exact h
  | succ k ih =>
    intro i v w hf h
    rw [show nuC f N (k + 1) i v = if i < N ∧ isD (f i) = true then nuC f N k (i + 1) (min (v * 10 + f i - 48) 999990) else v from rfl, show nuR g N (k + 1) i w = if i < N ∧ isD (g i) = true then nuR g N k (i + 1) (if 99999 < w then w else 10 * w + g i - 48) else w from rfl]
    by_cases q : i < N
    · have e := hf i (by omega) q
      rw [← e]
      by_cases b : isD (f i) = true
      · have := isD_b b
        rw [if_pos ⟨q, b⟩, if_pos ⟨q, b⟩]
        refine ih (i + 1) _ _ (fun j a c => hf j (by omega) c) ?_
        unfold nuE at h ⊢
        by_cases c : 99999 < w
        · rw [if_pos c]
          omega
        · rw [if_neg c]
          omega
      · rw [if_neg (fun z => b z.2), if_neg (fun z => b z.2)]
        exact h
    · rw [if_neg (fun z => q z.1), if_neg (fun z => q z.1)]
      exact h
theorem stE_eq {p : Int → Bool} {f g : Int → Int} {N : Int} : ∀ (k : Nat) (i : Int), (∀ j : Int, i ≤ j → j < N → f j = g j) → stE p f N k i = stE p g N k i := by
  intro k
  induction k with
  | zero => intro i _; rfl
  | succ k ih =>
    intro i hf
    rw [show stE p f N (k + 1) i = if i < N ∧ p (f i) = true then stE p f N k (i + 1) else i from rfl, show stE p g N (k + 1) i = if i < N ∧ p (g i) = true then stE p g N k (i + 1) else i from rfl]
    by_cases q : i < N
    · rw [hf i (by omega) q, ih (i + 1) (fun j a c => hf j (by omega) c)]
    · rw [if_neg (fun z => q z.1), if_neg (fun z => q z.1)]
theorem nuR_b {f : Int → Int} {N : Int} : ∀ (k : Nat) (i v : Int), 0 ≤ v ∧ v ≤ 999999 → 0 ≤ nuR f N k i v ∧ nuR f N k i v ≤ 999999 := by
  intro k
  induction k with
  | zero => intro i v h; exact h
  | succ k ih =>
    intro i v h
    rw [show nuR f N (k + 1) i v = if i < N ∧ isD (f i) = true then nuR f N k (i + 1) (if 99999 < v then v else 10 * v + f i - 48) else v from rfl]
    by_cases q : i < N ∧ isD (f i) = true
    · have := isD_b q.2
      rw [if_pos q]
      apply ih
      by_cases c : 99999 < v
      · rw [if_pos c]
        exact h
      · rw [if_neg c]
        omega
    · rw [if_neg q]
      exact h
def u2 (D : Sto) (z a b x y : Int) : Sto := up (up D z a x) z b y
theorem u2_u {D : Sto} {z a b x y x' y' : Int} (h : ¬ a = b) : up (up (u2 D z a b x y) z a x') z b y' = u2 D z a b x' y' := by
  funext c j
  unfold u2 up
  by_cases q : c = z ∧ j = b
  · rw [if_pos q, if_pos q]
  · rw [if_neg q, if_neg q, if_neg q]
    by_cases q2 : c = z ∧ j = a
    · rw [if_pos q2, if_pos q2]
    · rw [if_neg q2, if_neg q2, if_neg q2]
theorem u2_a {D : Sto} {z a b x y : Int} (h : ¬ a = b) : u2 D z a b x y z a = x := by
  unfold u2
  rw [up_ni h, up_at]
theorem u2_b {D : Sto} {z a b x y : Int} : u2 D z a b x y z b = y := by
  unfold u2
  rw [up_at]
theorem u2_i {D : Sto} {z a b x y j : Int} (h : ¬ j = a) (h2 : ¬ j = b) : u2 D z a b x y z j = D z j := by
  unfold u2
  rw [up_ni h2, up_ni h]
theorem u2_ne {D : Sto} {z a b x y c : Int} (h : ¬ c = z) : u2 D z a b x y c = D c := by
  funext j
  unfold u2
  rw [up_ne h, up_ne h]
section S97
variable {xs : Int → Int} {n : Int × Int} {D : Sto}
theorem k120 (d : Nat) (N : Int) (hN : D 3 2 = N) (hN7 : N ≤ 700) : ∀ (k : Nat) (i v : Int), 0 ≤ i → N ≤ i + k → 0 ≤ v ∧ v ≤ 999990 → Rn (d + 1) 120 5 [some (2, 3)] [] (Sg xs n (u2 D 3 7 3 v i)) = Rn (d + 1) 120 73 [some (2, 3)] [] (Sg xs n (u2 D 3 7 3 (nuC (D 4) N k i v) (stE isD (D 4) N k i))) := by
  intro k
  induction k with
  | zero =>
    intro i v h0 hi hv
    rw [h120_5, u2_b, u2_i (by decide) (by decide), hN, if_pos (by omega)]
    rfl
  | succ k ih =>
    intro i v h0 hi hv
    rw [show nuC (D 4) N (k + 1) i v = if i < N ∧ isD (D 4 i) = true then nuC (D 4) N k (i + 1) (min (v * 10 + D 4 i - 48) 999990) else v from rfl, show stE isD (D 4) N (k + 1) i = if i < N ∧ isD (D 4 i) = true then stE isD (D 4) N k (i + 1) else i from rfl]
    rw [h120_5, u2_b, u2_i (by decide) (by decide), hN]
    by_cases q : i < N
    · have t := inb_t h0 (show i < 700 by omega)
      rw [if_neg (fun z => z q), if_pos t, u2_ne (by decide), c118, cK0, pR0, h120_28]
      by_cases b : isD (D 4 i) = true
      · have bb := isD_b b
        rw [bB_t b, if_neg (by decide), u2_b, if_pos t, u2_a (by decide), u2_ne (by decide), w32_idP (z := v * 10) (by omega) (by omega), w32_idP (z := v * 10 + D 4 i) (by omega) (by omega), w32_idP (z := v * 10 + D 4 i - 48) (by omega) (by omega), c323, cK0]
        show Rn (d + 1) 120 57 [some (2, 3)] [(0, min (v * 10 + D 4 i - 48) 999990), (2, 3)] (Sg xs n (u2 D 3 7 3 v i)) = _
        rw [h120_57, u2_b, w32_idP (by omega) (by omega), u2_u (by decide), if_pos ⟨q, b⟩, if_pos ⟨q, b⟩]
        exact ih (i + 1) _ (by omega) (by omega) (by omega)
      · rw [bB_f b, if_pos rfl, if_neg (fun z => b z.2), if_neg (fun z => b z.2)]
    · rw [if_pos q, if_neg (fun z => q z.1), if_neg (fun z => q z.1)]
theorem k189n (d : Nat) (N : Int) (hN : D 129 16 = N) (hN7 : N ≤ 700) : ∀ (k : Nat) (i v : Int) (o1 : Option Vv), 0 ≤ i → N ≤ i + k → 0 ≤ v ∧ v ≤ 999999 → Rn (d + 1) 189 162 [some (2, 129), o1] [] (Sg xs n (u2 D 129 20 17 v i)) = some ((9, 0), Sg xs n (u2 D 129 20 17 (nuR (D 130) N k i v) (stE isD (D 130) N k i))) := by
  have hv : ∀ i v : Int, hrV (u2 D 129 20 17 v i) = if i < N then D 130 i else -1 := fun i v => by
    unfold hrV
    rw [u2_b, u2_i (by decide) (by decide), hN, u2_ne (by decide)]
  have e186 : ∀ i v : Int, 0 ≤ i → den (d + 1) 186 [(2, 129)] (Sg xs n (u2 D 129 20 17 v i)) = some ((0, hrV (u2 D 129 20 17 v i)), Sg xs n (u2 D 129 20 17 v i)) := fun i v h0 => c186 d (by rw [u2_b]; exact h0) (by rw [u2_i (by decide) (by decide), hN]; exact hN7)
  have no : isD (-1) = false := rfl
  intro k
  induction k with
  | zero =>
    intro i v o1 h0 hi hvv
    rw [h189_162, e186 i v h0, cK0, pR0, h189_166, c188, cK0, pR0, h189_169, hv, if_neg (show ¬ i < N by omega), no, bB_f (by decide), if_pos rfl, h189_225]
    rfl
  | succ k ih =>
    intro i v o1 h0 hi hvv
    rw [show nuR (D 130) N (k + 1) i v = if i < N ∧ isD (D 130 i) = true then nuR (D 130) N k (i + 1) (if 99999 < v then v else 10 * v + D 130 i - 48) else v from rfl, show stE isD (D 130) N (k + 1) i = if i < N ∧ isD (D 130 i) = true then stE isD (D 130) N k (i + 1) else i from rfl]
    rw [h189_162, e186 i v h0, cK0, pR0, h189_166, c188, cK0, pR0, h189_169, hv]
    by_cases q : i < N
    · rw [if_pos q]
      by_cases b : isD (D 130 i) = true
      · have bb := isD_b b
        rw [bB_t b, if_neg (by decide), u2_a (by decide), if_pos (show i < N ∧ isD (D 130 i) = true from ⟨q, b⟩), if_pos (show i < N ∧ isD (D 130 i) = true from ⟨q, b⟩)]
        by_cases c : 99999 < v
        · rw [if_neg (fun z => z c), if_pos c, h189_204, u2_b, w32_idP (by omega) (by omega), u2_u (by decide)]
          exact ih (i + 1) v none (by omega) (by omega) hvv
        · rw [if_pos c, if_neg c, e186 i v h0, hv, if_pos q, cK0]
          show Rn (d + 1) 189 200 [some (2, 129), none] [(0, D 130 i), (0, w32 (10 * v)), (2, 129)] (Sg xs n (u2 D 129 20 17 v i)) = _
          rw [h189_200, w32_idP (z := 10 * v) (by omega) (by omega), w32_idP (z := 10 * v + D 130 i) (by omega) (by omega), w32_idP (z := 10 * v + D 130 i - 48) (by omega) (by omega), h189_204, u2_b, w32_idP (by omega) (by omega), u2_u (by decide)]
          exact ih (i + 1) _ none (by omega) (by omega) (by omega)
      · rw [bB_f b, if_pos rfl, h189_225, if_neg (show ¬ (i < N ∧ isD (D 130 i) = true) from fun z => b z.2), if_neg (show ¬ (i < N ∧ isD (D 130 i) = true) from fun z => b z.2)]
    · rw [if_neg q, no, bB_f (by decide), if_pos rfl, h189_225, if_neg (show ¬ (i < N ∧ isD (D 130 i) = true) from fun z => q z.1), if_neg (show ¬ (i < N ∧ isD (D 130 i) = true) from fun z => q z.1)]
end S97
