/-! Text: the constants found by their codes; signs -/
def lkF (code df : Int) : Nat → Int → Int
  | 0, _ => df
  | r + 1, i => if kf 1 (kAll i) = code then kAll i else lkF code df r (i + 1)
def lkT (code df : Int) : Int := if 0 < code then lkF code df 38 0 else df
section S98
variable {xs : Int → Int} {n : Int × Int} {D : Sto}
theorem kAll_ok {i : Int} (h0 : 0 ≤ i) (h1 : i < 38) : okK (kAll i) = true := by
  unfold kAll okK
  rw [if_pos ⟨h0, h1⟩, Bool.and_eq_true, decide_eq_true_eq, decide_eq_true_eq]
  omega
theorem k34a (d : Nat) (code : Int) (hc : 0 < code) : ∀ (r : Nat) (i : Int), 0 ≤ i → i + r = 38 → Rn d 34 2 [some (0, code), some (2, (-37)), some (0, i)] [] (Sg xs n D) = some ((2, lkF code (-37) r i), Sg xs n D) := by
  intro r
  induction r with
  | zero =>
    intro i h0 hi
    rw [h34a_2, if_neg (fun z => z hc), if_pos (by omega), h34a_38]
    rfl
  | succ r ih =>
    intro i h0 hi
    rw [show lkF code (-37) (r + 1) i = if kf 1 (kAll i) = code then kAll i else lkF code (-37) r (i + 1) from rfl, h34a_2, if_neg (fun z => z hc), if_neg (by omega), if_pos (inb_t h0 (by omega)), if_pos (kAll_ok h0 (by omega))]
    by_cases q : kf 1 (kAll i) = code
    · rw [if_neg (fun z => z q), if_pos (inb_t h0 (by omega)), if_pos q]
    · rw [if_pos q, if_neg q, w32_idP (by omega) (by omega)]
      exact ih (i + 1) (by omega) (by omega)
theorem k34b (d : Nat) (code : Int) (hc : 0 < code) : ∀ (r : Nat) (i : Int), 0 ≤ i → i + r = 38 → Rn d 34 2 [some (0, code), some (2, (-39)), some (0, i)] [] (Sg xs n D) = some ((2, lkF code (-39) r i), Sg xs n D) := by
  intro r
  induction r with
  | zero =>
    intro i h0 hi
    rw [h34b_2, if_neg (fun z => z hc), if_pos (by omega), h34b_38]
    rfl
  | succ r ih =>
    intro i h0 hi
    rw [show lkF code (-39) (r + 1) i = if kf 1 (kAll i) = code then kAll i else lkF code (-39) r (i + 1) from rfl, h34b_2, if_neg (fun z => z hc), if_neg (by omega), if_pos (inb_t h0 (by omega)), if_pos (kAll_ok h0 (by omega))]
    by_cases q : kf 1 (kAll i) = code
    · rw [if_neg (fun z => z q), if_pos (inb_t h0 (by omega)), if_pos q]
    · rw [if_pos q, if_neg q, w32_idP (by omega) (by omega)]
      exact ih (i + 1) (by omega) (by omega)
theorem c34a (d : Nat) (code : Int) : den (d + 1) 34 [(0, code), (2, (-37))] (Sg xs n D) = some ((2, lkT code (-37)), Sg xs n D) := by
  rw [n34a, h34a_0]
  unfold lkT
  by_cases q : 0 < code
  · rw [if_pos q]
    exact k34a d code q 38 0 (by omega) (by omega)
  · rw [if_neg q, h34a_2, if_pos q, h34a_38]
theorem c34b (d : Nat) (code : Int) : den (d + 1) 34 [(0, code), (2, (-39))] (Sg xs n D) = some ((2, lkT code (-39)), Sg xs n D) := by
  rw [n34b, h34b_0]
  unfold lkT
  by_cases q : 0 < code
  · rw [if_pos q]
    exact k34b d code q 38 0 (by omega) (by omega)
  · rw [if_neg q, h34b_2, if_pos q, h34b_38]
/-- the reference's store behind a token: sort, value, place -/
def tkR (D : Sto) (k v i : Int) : Sto := up (up (up D 129 19 k) 129 20 v) 129 17 i
theorem tkR_17 {k v i i' : Int} : up (tkR D k v i) 129 17 i' = tkR D k v i' := by
  funext z j
  unfold tkR up
  by_cases a : z = 129 ∧ j = 17
  · rw [if_pos a, if_pos a]
  · rw [if_neg a, if_neg a, if_neg a]
theorem tkR_20 {k v i v' : Int} : up (tkR D k v i) 129 20 v' = tkR D k v' i := by
  funext z j
  unfold tkR up
  by_cases a : z = 129 ∧ j = 20
  · rw [if_pos a, if_neg (by omega), if_pos a]
  · rw [if_neg a]
    by_cases b : z = 129 ∧ j = 17
    · rw [if_pos b, if_pos b]
    · rw [if_neg b, if_neg a, if_neg b, if_neg a]
theorem tkR_0 {k v i : Int} : up (up (up D 129 17 i) 129 19 k) 129 20 v = tkR D k v i := by
  funext z j
  unfold tkR up
  by_cases a : z = 129 ∧ j = 17
  · rw [if_neg (by omega), if_neg (by omega), if_pos a, if_pos a]
  · by_cases b : z = 129 ∧ j = 20
    · rw [if_pos b, if_neg a, if_pos b]
    · by_cases c : z = 129 ∧ j = 19
      · rw [if_neg b, if_pos c, if_neg a, if_neg b, if_pos c]
      · rw [if_neg b, if_neg c, if_neg a, if_neg a, if_neg b, if_neg c]
theorem tkR_at {k v i : Int} : tkR D k v i 129 17 = i ∧ tkR D k v i 129 20 = v ∧ tkR D k v i 129 19 = k := by
  unfold tkR
  refine ⟨up_at, ?_, ?_⟩
  · rw [up_ni (by decide), up_at]
  · rw [up_ni (by decide), up_ni (by decide), up_at]
theorem tkR_i {k v i j : Int} (h1 : ¬ j = 17) (h2 : ¬ j = 19) (h3 : ¬ j = 20) : tkR D k v i 129 j = D 129 j := by
  unfold tkR
  rw [up_ni h1, up_ni h3, up_ni h2]
theorem tkR_ne {k v i z : Int} (h : ¬ z = 129) : tkR D k v i z = D z := by
  funext j
  unfold tkR
  rw [up_ne h, up_ne h, up_ne h]
def sgK (c : Int) : Int := if c = 59 ∨ c = 40 ∨ c = 41 ∨ c = 43 ∨ c = 45 ∨ c = 42 ∨ c = 47 ∨ c = 60 ∨ c = 61 ∨ c = 62 then 3 else 5
def sgV (c x : Int) : Int := if c = 60 ∧ x = 61 then 256 else if c = 60 ∧ x = 62 then 257 else if c = 62 ∧ x = 61 then 258 else c
def nxV (f : Int → Int) (N i : Int) : Int := if i < N then f i else -1
theorem c190 (d : Nat) (c N i : Int) (hi : D 129 17 = i) (hN : D 129 16 = N) (h0 : 0 ≤ i) (hN7 : N ≤ 700) (hiN : i < N) (hc : c < 256) : den (d + 2) 190 [(2, 129), (0, c)] (Sg xs n D) = some ((9, 0), Sg xs n (tkR D (sgK c) (sgV c (nxV (D 130) N (i + 1))) (if sgV c (nxV (D 130) N (i + 1)) < 256 then i + 1 else i + 2))) := by
  have e186 : ∀ k v : Int, den (d + 1) 186 [(2, 129)] (Sg xs n (tkR D k v (i + 1))) = some ((0, nxV (D 130) N (i + 1)), Sg xs n (tkR D k v (i + 1))) := fun k v => by
    rw [c186 d (by rw [tkR_at.1]; omega) (by rw [tkR_i (by decide) (by decide) (by decide), hN]; exact hN7)]
    unfold hrV nxV
    rw [tkR_at.1, tkR_i (by decide) (by decide) (by decide), hN, tkR_ne (by decide)]
  have s76 : den (d + 2) 190 [(2, 129), (0, c)] (Sg xs n D) = Rn (d + 1) 190 76 [some (2, 129), some (0, c)] [(0, sgK c), (2, 129)] (Sg xs n (up D 129 17 (i + 1))) := by
    rw [n190, h190_0, hi, w32_idP (by omega) (by omega)]
    simp only [h190_71]
    unfold sgK
    (repeat' split) <;> first | rfl | (exfalso; omega)
  have s150 : ∀ v : Int, v = sgV c (nxV (D 130) N (i + 1)) → ∀ o1 : Option Vv, Rn (d + 1) 190 150 [some (2, 129), o1] [] (Sg xs n (tkR D (sgK c) v (i + 1))) = some ((9, 0), Sg xs n (tkR D (sgK c) (sgV c (nxV (D 130) N (i + 1))) (if sgV c (nxV (D 130) N (i + 1)) < 256 then i + 1 else i + 2))) := by
    intro v hv o1
    rw [← hv, h190_150, tkR_at.2.1, tkR_at.1]
    by_cases q : v < 256
    · rw [if_pos q, h190_170, if_pos q]
    · rw [if_neg q, h190_170, if_neg q, w32_idP (by omega) (by omega), tkR_17, show i + 1 + 1 = i + 2 by omega]
  rw [s76, h190_76, tkR_0]
  generalize hx : nxV (D 130) N (i + 1) = x at e186 s150 ⊢
  by_cases a : c = 60
  · rw [if_neg (fun z => z a), e186, cK0, pR0, h190_94]
    by_cases b : x = 61
    · rw [if_neg (fun z => z b), h190_106, if_neg (fun z => z a), tkR_20, e186, cK0, pR0, h190_116, if_pos (by omega), h190_128, if_pos (by omega)]
      exact s150 256 (by unfold sgV; rw [if_pos ⟨a, b⟩]) _
    · rw [if_pos b, h190_106, if_neg (fun z => z a), e186, cK0, pR0, h190_116]
      by_cases b2 : x = 62
      · rw [if_neg (fun z => z b2), h190_128, if_pos (by omega), tkR_20]
        exact s150 257 (by unfold sgV; rw [if_neg (fun z => b z.2), if_pos ⟨a, b2⟩]) _
      · rw [if_pos b2, h190_128, if_pos (by omega)]
        exact s150 c (by unfold sgV; rw [if_neg (fun z => b z.2), if_neg (fun z => b2 z.2), if_neg (fun z => b z.2)]) _
  · rw [if_pos a, h190_106, if_pos a, h190_128]
    by_cases a2 : c = 62
    · rw [if_neg (fun z => z a2), e186, cK0, pR0, h190_138]
      by_cases b : x = 61
      · rw [if_neg (fun z => z b), tkR_20]
        exact s150 258 (by unfold sgV; rw [if_neg (fun z => a z.1), if_neg (fun z => a z.1), if_pos ⟨a2, b⟩]) _
      · rw [if_pos b]
        exact s150 c (by unfold sgV; rw [if_neg (fun z => a z.1), if_neg (fun z => a z.1), if_neg (fun z => b z.2)]) _
    · rw [if_pos a2]
      exact s150 c (by unfold sgV; rw [if_neg (fun z => a z.1), if_neg (fun z => a z.1), if_neg (fun z => a2 z.1)]) _
end S98
