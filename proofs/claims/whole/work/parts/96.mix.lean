/-! Text: the class's cells and the reference's, each beside any of the other -/
def mix (C R : Sto) : Sto := fun z j => if z < 129 then C z j else R z j
theorem mix_c {C R : Sto} {z : Int} (h : z < 129) : mix C R z = C z := by
  funext j
  unfold mix
  rw [if_pos h]
theorem mix_r {C R : Sto} {z : Int} (h : ¬ z < 129) : mix C R z = R z := by
  funext j
  unfold mix
  rw [if_neg h]
theorem mix_uc {C R : Sto} {z j v : Int} (h : z < 129) : up (mix C R) z j v = mix (up C z j v) R := by
  funext y i
  show (if y = z ∧ i = j then v else if y < 129 then C y i else R y i) = if y < 129 then (if y = z ∧ i = j then v else C y i) else R y i
  by_cases a : y = z ∧ i = j
  · rw [if_pos a, if_pos (by omega), if_pos a]
  · rw [if_neg a, if_neg a]
theorem mix_ur {C R : Sto} {z j v : Int} (h : ¬ z < 129) : up (mix C R) z j v = mix C (up R z j v) := by
  funext y i
  show (if y = z ∧ i = j then v else if y < 129 then C y i else R y i) = if y < 129 then C y i else (if y = z ∧ i = j then v else R y i)
  by_cases a : y = z ∧ i = j
  · rw [if_pos a, if_neg (by omega), if_pos a]
  · rw [if_neg a, if_neg a]
theorem mix_s {D : Sto} : mix D D = D := by
  funext z j
  unfold mix
  split <;> rfl
/-- a call of the class, whatever the reference's cells hold -/
def dcl (xs : Int → Int) (n : Int × Int) (d mc : Nat) (as : List Vv) (C : Sto) (v : Vv) (C' : Sto) : Prop := ∀ R : Sto, den d mc as (Sg xs n (mix C R)) = some (v, Sg xs n (mix C' R))
/-- a call of the reference, whatever the class's cells hold -/
def drf (xs : Int → Int) (n : Int × Int) (d mr : Nat) (as : List Vv) (R : Sto) (v : Vv) (R' : Sto) : Prop := ∀ C : Sto, den d mr as (Sg xs n (mix C R)) = some (v, Sg xs n (mix C R'))
/-- both, one behind the other, from one store -/
theorem mix_tw {xs : Int → Int} {n : Int × Int} {d mc mr : Nat} {ac ar : List Vv} {D C' R' : Sto} {v w : Vv} (h1 : dcl xs n d mc ac D v C') (h2 : drf xs n d mr ar D w R') : den d mc ac (Sg xs n D) = some (v, Sg xs n (mix C' D)) ∧ den d mr ar (Sg xs n (mix C' D)) = some (w, Sg xs n (mix C' R')) := by
  have e := h1 D
  rw [mix_s] at e
  exact ⟨e, h2 C'⟩
/-- how far a stretch of the tape goes whose bytes are of one kind -/
def stE (p : Int → Bool) (f : Int → Int) (N : Int) : Nat → Int → Int
  | 0, i => i
  | k + 1, i => if i < N ∧ p (f i) = true then stE p f N k (i + 1) else i
theorem stE_b {p : Int → Bool} {f : Int → Int} {N : Int} : ∀ (k : Nat) (i : Int), i ≤ N → i ≤ stE p f N k i ∧ stE p f N k i ≤ N := by
  intro k
  induction k with
  | zero => intro i h; exact ⟨Int.le_refl i, h⟩
  | succ k ih =>
    intro i h
    rw [show stE p f N (k + 1) i = if i < N ∧ p (f i) = true then stE p f N k (i + 1) else i from rfl]
    split
    · have := ih (i + 1) (by omega)
      omega
    · omega
/-- it ends where it ends -/
theorem stE_e {p : Int → Bool} {f : Int → Int} {N : Int} : ∀ (k : Nat) (i : Int), N ≤ i + k → ¬ (stE p f N k i < N ∧ p (f (stE p f N k i)) = true) := by
  intro k
  induction k with
  | zero =>
    intro i h q
    have : stE p f N 0 i = i := rfl
    rw [this] at q
    omega
  | succ k ih =>
    intro i h
    rw [show stE p f N (k + 1) i = if i < N ∧ p (f i) = true then stE p f N k (i + 1) else i from rfl]
    by_cases q : i < N ∧ p (f i) = true
    · rw [if_pos q]
      exact ih (i + 1) (by omega)
    · rw [if_neg q]
      exact q
def isB (c : Int) : Bool := decide (c = 10) || decide (c = 32)
def isL (c : Int) : Bool := decide (97 ≤ c) && decide (c ≤ 122)
def isD (c : Int) : Bool := decide (48 ≤ c) && decide (c ≤ 57)
section S96
variable {xs : Int → Int} {n : Int × Int} {D C R : Sto}
theorem c117 (d : Nat) (c : Int) : den (d + 1) 117 [(0, c)] (Sg xs n D) = some ((0, bB (isL c = true)), Sg xs n D) := by
  have hr : ret01 117 0 = true ∧ ret01 117 1 = true := ⟨rfl, rfl⟩
  rw [n117, h117_0]
  simp only [h117_16, h117_17, hr, if_true]
  by_cases a : c < 97
  · rw [if_pos a, bB_f (by unfold isL; simp; omega)]
  · rw [if_neg a]
    by_cases b : 122 < c
    · rw [if_pos b, bB_f (by unfold isL; simp; omega)]
    · rw [if_neg b, bB_t (by unfold isL; simp; omega)]
theorem c118 (d : Nat) (c : Int) : den (d + 1) 118 [(0, c)] (Sg xs n D) = some ((0, bB (isD c = true)), Sg xs n D) := by
  have hr : ret01 118 0 = true ∧ ret01 118 1 = true := ⟨rfl, rfl⟩
  rw [n118, h118_0]
  simp only [h118_16, h118_17, hr, if_true]
  by_cases a : c < 48
  · rw [if_pos a, bB_f (by unfold isD; simp; omega)]
  · rw [if_neg a]
    by_cases b : 57 < c
    · rw [if_pos b, bB_f (by unfold isD; simp; omega)]
    · rw [if_neg b, bB_t (by unfold isD; simp; omega)]
theorem c187 (d : Nat) (c : Int) : den (d + 1) 187 [(0, c)] (Sg xs n D) = some ((0, bB (isL c = true)), Sg xs n D) := by
  have hr : ret01 187 0 = true ∧ ret01 187 1 = true := ⟨rfl, rfl⟩
  rw [n187, h187_0]
  simp only [h187_16, h187_17, hr, if_true]
  by_cases a : c < 97
  · rw [if_pos a, bB_f (by unfold isL; simp; omega)]
  · rw [if_neg a]
    by_cases b : 122 < c
    · rw [if_pos b, bB_f (by unfold isL; simp; omega)]
    · rw [if_neg b, bB_t (by unfold isL; simp; omega)]
theorem c188 (d : Nat) (c : Int) : den (d + 1) 188 [(0, c)] (Sg xs n D) = some ((0, bB (isD c = true)), Sg xs n D) := by
  have hr : ret01 188 0 = true ∧ ret01 188 1 = true := ⟨rfl, rfl⟩
  rw [n188, h188_0]
  simp only [h188_16, h188_17, hr, if_true]
  by_cases a : c < 48
  · rw [if_pos a, bB_f (by unfold isD; simp; omega)]
  · rw [if_neg a]
    by_cases b : 57 < c
    · rw [if_pos b, bB_f (by unfold isD; simp; omega)]
    · rw [if_neg b, bB_t (by unfold isD; simp; omega)]
/-- what the reference sees at its place -/
def hrV (D : Sto) : Int := if D 129 17 < D 129 16 then D 130 (D 129 17) else -1
theorem c186 (d : Nat) (h0 : 0 ≤ D 129 17) (h1 : D 129 16 ≤ 700) : den (d + 1) 186 [(2, 129)] (Sg xs n D) = some ((0, hrV D), Sg xs n D) := by
  rw [n186, h186_0]
  unfold hrV
  by_cases q : D 129 17 < D 129 16
  · rw [if_neg (fun z => z q), if_pos (inb_t h0 (by omega)), h186_24, if_pos q]
  · rw [if_pos q, h186_24, if_neg q]
/-- the class skips blanks -/
theorem k116 (d : Nat) (N : Int) (hN : D 3 2 = N) (hN7 : N ≤ 700) : ∀ (k : Nat) (i : Int), 0 ≤ i → N ≤ i + k → Rn d 116 0 [some (2, 3)] [] (Sg xs n (up D 3 3 i)) = Rn d 116 52 [some (2, 3)] [] (Sg xs n (up D 3 3 (stE isB (D 4) N k i))) := by
  intro k
  induction k with
  | zero =>
    intro i h0 hi
    rw [h116_0, up_at, up_ni (by decide), hN, if_pos (by omega)]
    rfl
  | succ k ih =>
    intro i h0 hi
    rw [show stE isB (D 4) N (k + 1) i = if i < N ∧ isB (D 4 i) = true then stE isB (D 4) N k (i + 1) else i from rfl, h116_0, up_at, up_ni (by decide), hN, up_ne (show ¬ (4 : Int) = 3 by decide)]
    by_cases q : i < N
    · have t := inb_t h0 (show i < 700 by omega)
      have go : D 4 i = 10 ∨ D 4 i = 32 → Rn d 116 39 [some (2, 3)] [] (Sg xs n (up D 3 3 i)) = Rn d 116 52 [some (2, 3)] [] (Sg xs n (up D 3 3 (if i < N ∧ isB (D 4 i) = true then stE isB (D 4) N k (i + 1) else i))) := by
        intro b
        have e : up (up D 3 3 i) 3 3 (i + 1) = up D 3 3 (i + 1) := by
          funext z j
          unfold up
          split <;> rfl
        rw [h116_39, up_at, w32_idP (by omega) (by omega), e, if_pos ⟨q, by unfold isB; simp [b]⟩]
        exact ih (i + 1) (by omega) (by omega)
      rw [if_neg (fun z => z q), if_pos t]
      by_cases b : D 4 i = 10
      · rw [if_pos b]
        exact go (Or.inl b)
      · rw [if_neg b, if_pos t]
        by_cases c : D 4 i = 32
        · rw [if_neg (fun z => z c)]
          exact go (Or.inr c)
        · rw [if_pos c, if_neg (fun z => by unfold isB at z; simp [b, c] at z)]
    · rw [if_pos q, if_neg (fun z => q z.1)]
/-- the reference skips blanks -/
theorem k189 (d : Nat) (N : Int) (hN : D 129 16 = N) (hN7 : N ≤ 700) : ∀ (k : Nat) (i : Int), 0 ≤ i → N ≤ i + k → Rn (d + 1) 189 0 [some (2, 129), none] [] (Sg xs n (up D 129 17 i)) = Rn (d + 1) 189 13 [some (2, 129), none] [(0, hrV (up D 129 17 (stE isB (D 130) N k i)))] (Sg xs n (up D 129 17 (stE isB (D 130) N k i))) ∧ ¬ (stE isB (D 130) N k i < N ∧ isB (D 130 (stE isB (D 130) N k i)) = true) := by
  have hv : ∀ i : Int, hrV (up D 129 17 i) = if i < N then D 130 i else -1 := fun i => by
    unfold hrV
    rw [up_at, up_ni (by decide), hN, up_ne (show ¬ (130 : Int) = 129 by decide)]
  have e186 : ∀ i : Int, 0 ≤ i → den (d + 1) 186 [(2, 129)] (Sg xs n (up D 129 17 i)) = some ((0, hrV (up D 129 17 i)), Sg xs n (up D 129 17 i)) := fun i h0 => c186 d (by rw [up_at]; exact h0) (by rw [up_ni (by decide), hN]; exact hN7)
  intro k
  induction k with
  | zero =>
    intro i h0 hi
    have e : stE isB (D 130) N 0 i = i := rfl
    rw [e]
    refine ⟨?_, by omega⟩
    rw [h189_0, e186 i h0, cK0, pR0, h189_4, hv, if_neg (show ¬ i < N by omega), if_neg (by decide), e186 i h0, cK0, pR0, hv, if_neg (show ¬ i < N by omega)]
  | succ k ih =>
    intro i h0 hi
    rw [show stE isB (D 130) N (k + 1) i = if i < N ∧ isB (D 130 i) = true then stE isB (D 130) N k (i + 1) else i from rfl]
    by_cases q : i < N ∧ isB (D 130 i) = true
    · rw [if_pos q]
      have r := ih (i + 1) (by omega) (by omega)
      refine ⟨?_, r.2⟩
      have e : up (up D 129 17 i) 129 17 (i + 1) = up D 129 17 (i + 1) := by
        funext z j
        unfold up
        split <;> rfl
      have go : Rn (d + 1) 189 18 [some (2, 129), none] [] (Sg xs n (up D 129 17 i)) = Rn (d + 1) 189 0 [some (2, 129), none] [] (Sg xs n (up D 129 17 (i + 1))) := by
        rw [h189_18, up_at, w32_idP (by omega) (by omega), e]
      have b := q.2
      unfold isB at b
      rw [Bool.or_eq_true, decide_eq_true_eq, decide_eq_true_eq] at b
      rw [h189_0, e186 i h0, cK0, pR0, h189_4, hv, if_pos q.1]
      by_cases b1 : D 130 i = 10
      · rw [if_pos b1, go]
        exact r.1
      · rw [if_neg b1, e186 i h0, cK0, pR0, h189_13, hv, if_pos q.1, if_neg (fun z => z (by omega)), go]
        exact r.1
    · rw [if_neg q]
      refine ⟨?_, q⟩
      rw [h189_0, e186 i h0, cK0, pR0, h189_4, if_neg ?_, e186 i h0, cK0, pR0]
      rw [hv]
      by_cases a : i < N
      · rw [if_pos a]
        intro z
        exact q ⟨a, by unfold isB; simp [z]⟩
      · rw [if_neg a]
        decide
end S96
