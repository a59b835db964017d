/-! The class's cells beside the reference's: all of them -/
def nxE (F T : Int → Int) (b : Int) : Nat → Nat
  | 0 => 0
  | k + 1 => if F k = b then nxE F T b k ||| 2 ^ (T k).toNat else nxE F T b k
/-- what leads on from a block, in rows -/
def G2 (D : Sto) (nb m : Nat) : Prop := ∀ b : Nat, b < nb → (D 33 b = cntE (D 136) b m ∧ D 33 b ≤ 3) ∧ (∀ i : Nat, (i : Int) < D 33 b → D 37 ((b : Int) * 3 + i) = nthE (D 136) (fun z => z) b m m i) ∧ D 35 b = ((nxE (D 136) (D 137) b m : Nat) : Int) ∧ (¬ D 135 b = 0 → ∃ e : Nat, e < m ∧ D 137 e = b ∧ D 136 e = D 135 b - 1)
/-- names, works, what is set -/
def PE (D : Sto) (nb : Nat) : Prop := (∀ b : Nat, b < nb → D 27 b = D 132 b ∧ D 29 b = D 134 b ∧ 0 ≤ D 134 b ∧ D 134 b ≤ 99) ∧ ((1 ≤ D 26 6 ∧ D 26 6 ≤ 40) ∧ (nb = 0 ∨ D 26 6 = D 131 3)) ∧ (D 26 7 = D 131 4 ∧ 0 ≤ D 131 4 ∧ D 131 4 ≤ 100) ∧ D 40 0 = D 131 6
/-- signs of a sum: the class's constant, the reference's number -/
def sgP (kc kv : Int) : Prop := (kc = -20 ∧ kv = 262) ∨ (kc = -21 ∧ kv = 261) ∨ (kc = -22 ∧ kv = 260) ∨ (kc = -23 ∧ kv = 60) ∨ (kc = -24 ∧ kv = 256) ∨ (kc = -25 ∧ kv = 61) ∨ (kc = -26 ∧ kv = 257) ∨ (kc = -27 ∧ kv = 258) ∨ (kc = -28 ∧ kv = 62) ∨ (kc = -29 ∧ kv = 43) ∨ (kc = -30 ∧ kv = 45) ∨ (kc = -31 ∧ kv = 42) ∨ (kc = -32 ∧ kv = 47)
def knP (kc nc ks kv : Int) : Prop := (ks = 0 ∧ kc = -36 ∧ kv = nc ∧ 0 ≤ nc ∧ nc ≤ 9999) ∨ (ks = 1 ∧ kc = -13 - kv ∧ 0 ≤ kv ∧ kv ≤ 6) ∨ (ks = 2 ∧ sgP kc kv)
/-- how many values there are behind a knot -/
def stH (ks kv : Int) (h : Nat) : Option Nat := if ks = 2 then (if kv = 260 then (if 1 ≤ h then some h else none) else (if 2 ≤ h then some (h - 1) else none)) else some (h + 1)
def hgt (ks kv : Int → Int) (s : Int) : Nat → Option Nat
  | 0 => some 0
  | i + 1 => (hgt ks kv s i).bind (fun h => stH (ks (s + i)) (kv (s + i)) h)
def LE1 (D : Sto) (k : Nat) : Prop := (D 43 k = D 138 k ∧ D 44 k = D 139 k) ∧ (0 ≤ D 138 k ∧ D 138 k ≤ D 139 k ∧ D 139 k ≤ 64) ∧ (∀ i : Nat, D 138 k ≤ i → (i : Int) < D 139 k → knP (D 41 i) (D 42 i) (D 140 i) (D 141 i)) ∧ (D 138 k < D 139 k → hgt (D 140) (D 141) (D 138 k) (D 139 k - D 138 k).toNat = some 1)
def LE (D : Sto) : Prop := LE1 D 0 ∧ LE1 D 1 ∧ LE1 D 2
/-- a run of the class at r, the reference's s-th -/
def RunB (D : Sto) (nb : Nat) (r s : Int) : Prop := ∀ b : Nat, b < nb → (D (r + 1) b = D 154 (8 * s + b) ∧ 0 ≤ D 154 (8 * s + b) ∧ D 154 (8 * s + b) < 256) ∧ (D (r + 2) b = D 155 (8 * s + b) ∧ 0 ≤ D 155 (8 * s + b) ∧ D 155 (8 * s + b) ≤ 9999)
def RunF (D : Sto) (nb : Nat) (r s : Int) : Prop := (D r 2 = D 153 s ∧ 0 ≤ D 153 s ∧ D 153 s < 2 ^ nb) ∧ (D r 3 = D 144 s ∧ 0 ≤ D 144 s ∧ D 144 s ≤ 10000) ∧ (D r 4 = D 146 s ∧ 0 ≤ D 146 s ∧ (D 146 s < nb ∨ (nb = 0 ∧ D 146 s = 0))) ∧ (D r 5 = D 147 s ∧ 0 ≤ D 147 s ∧ D 147 s < 256) ∧ (D r 6 = D 148 s ∧ 0 ≤ D 148 s ∧ D 148 s < 256) ∧ (D r 7 = D 149 s ∧ 0 ≤ D 149 s ∧ D 149 s ≤ 999999) ∧ (D r 8 = D 150 s ∧ D r 9 = D 151 s ∧ D r 10 = D 152 s) ∧ (in32 (D 150 s) ∧ in32 (D 151 s) ∧ in32 (D 152 s)) ∧ (D r 11 = D 145 s ∧ 0 ≤ D 145 s ∧ D 145 s < 2147483648)
def RunE (D : Sto) (nb : Nat) (r s : Int) : Prop := RunB D nb r s ∧ RunF D nb r s
/-- what can be undone, the image -/
def HE (D : Sto) (nb : Nat) : Prop := ∃ u t : Nat, (u ≤ 20 ∧ t < 20 ∧ D 64 0 = u ∧ D 129 43 = u ∧ D 64 4 = t) ∧ (∀ k : Nat, k < u → RunE D nb (69 + 3 * (((t + 20 - k) % 20 : Nat) : Int)) (3 + ((u - 1 - k : Nat) : Int))) ∧ D 64 3 = D 129 42 ∧ (D 129 42 = 0 ∨ D 129 42 = 1) ∧ (D 129 42 = 1 → RunE D nb 66 2)
/-- the tape, the fault -/
def TE (D : Sto) : Prop := ∃ L : Nat, (D 3 1 = L ∧ D 129 2 = L ∧ L ≤ 700) ∧ (∀ j : Nat, j < L → D 4 j = D 130 j ∧ 0 ≤ D 130 j ∧ D 130 j < 256) ∧ D 1 8 = D 129 23 ∧ D 1 9 = D 129 24
def ZE (D : Sto) : Prop := D 129 48 = 0 ∧ ∀ k : Nat, k < 64 → okK0 (D 20 k) = true
def RelX (D : Sto) (nb m : Nat) : Prop := G2 D nb m ∧ PE D nb ∧ LE D ∧ RunE D nb 46 0 ∧ HE D nb ∧ TE D ∧ ZE D
def Rel (D : Sto) : Prop := ∃ nb m : Nat, RelK D nb m ∧ RelX D nb m
section RL
variable {xs : Int → Int} {n : Int × Int} {D F : Sto} {nb m : Nat}
theorem RunE_c {r s : Int} (h1 : ∀ z j : Int, r ≤ z → z ≤ r + 2 → F z j = D z j) (h2 : ∀ z : Int, 144 ≤ z → z ≤ 153 → F z s = D z s) (h3 : ∀ z b : Int, z = 154 ∨ z = 155 → 0 ≤ b → b < 8 → F z (8 * s + b) = D z (8 * s + b)) (h8 : nb ≤ 8) (R : RunE D nb r s) : RunE F nb r s := by
  obtain ⟨b1, f1⟩ := R
  constructor
  · intro b hb
    rw [h1 (r + 1) b (by omega) (by omega), h1 (r + 2) b (by omega) (by omega), h3 154 b (by omega) (by omega) (by omega), h3 155 b (by omega) (by omega) (by omega)]
    exact b1 b hb
  · unfold RunF
    simp only [h1 r _ (Int.le_refl r) (show r ≤ r + 2 by omega), h2 144 (by omega) (by omega), h2 145 (by omega) (by omega), h2 146 (by omega) (by omega), h2 147 (by omega) (by omega), h2 148 (by omega) (by omega), h2 149 (by omega) (by omega), h2 150 (by omega) (by omega), h2 151 (by omega) (by omega), h2 152 (by omega) (by omega), h2 153 (by omega) (by omega)]
    exact f1
theorem simN_z (h : simN F D) (z : Int) (hz : ¬ scz z) (h2 : ¬ (59 ≤ z ∧ z ≤ 62) ∧ ¬ (169 ≤ z ∧ z ≤ 172)) : F z = D z := funext (fun j => h z j (ns z hz j) (by unfold scz at hz; unfold scN; omega))
theorem simN_129 (h : simN F D) (j : Int) (hj : ¬ (j = 0 ∨ j = 29 ∨ j = 47 ∨ j = 49 ∨ j = 55 ∨ j = 56 ∨ j = 64 ∨ j = 65)) : F 129 j = D 129 j := h 129 j (by unfold scr; omega) (by unfold scN; omega)
theorem simN_run {r s : Int} (h : simN F D) (h8 : nb ≤ 8) (hr : r = 46 ∨ (64 ≤ r ∧ r ≤ 126)) (hs : s = 0 ∨ 2 ≤ s) (R : RunE D nb r s) : RunE F nb r s := by
  refine RunE_c ?_ ?_ ?_ h8 R
  · intro z j h1 h2
    exact h z j (by unfold scr; omega) (by unfold scN; omega)
  · intro z h1 h2
    exact h z s (by unfold scr; omega) (by unfold scN; omega)
  · intro z b hz h1 h2
    exact h z _ (by unfold scr; omega) (by unfold scN; omega)
theorem RelX_N (h : simN F D) (h8 : nb ≤ 8) (R : RelX D nb m) : RelX F nb m := by
  obtain ⟨g, p, ⟨l0, l1, l2⟩, r, ⟨u, t, hu, hh, i1, i2, i3⟩, ⟨L, t1, t2, t3, t4⟩, z1, z2⟩ := R
  have f := fun z hz h2 => simN_z h z hz h2
  have e40 : ∀ j : Int, ¬ j = 7 → F 40 j = D 40 j := fun j hj => h 40 j (by unfold scr; omega) (by unfold scN; omega)
  have e129 := simN_129 h
  have hl : ∀ k : Nat, LE1 D k → LE1 F k := by
    intro k l
    unfold LE1
    rw [f 43 (by unfold scz; omega) (by omega), f 44 (by unfold scz; omega) (by omega), f 138 (by unfold scz; omega) (by omega), f 139 (by unfold scz; omega) (by omega), f 41 (by unfold scz; omega) (by omega), f 42 (by unfold scz; omega) (by omega), f 140 (by unfold scz; omega) (by omega), f 141 (by unfold scz; omega) (by omega)]
    exact l
  refine ⟨?_, ?_, ⟨hl 0 l0, hl 1 l1, hl 2 l2⟩, simN_run h h8 (by omega) (by omega) r, ⟨u, t, ?_, ?_, ?_, ?_, ?_⟩, ⟨L, ?_, ?_, ?_, ?_⟩, ?_, ?_⟩
  · unfold G2
    rw [f 135 (by unfold scz; omega) (by omega), f 33 (by unfold scz; omega) (by omega), f 37 (by unfold scz; omega) (by omega), f 35 (by unfold scz; omega) (by omega), f 136 (by unfold scz; omega) (by omega), f 137 (by unfold scz; omega) (by omega)]
    exact g
  · unfold PE
    rw [f 27 (by unfold scz; omega) (by omega), f 29 (by unfold scz; omega) (by omega), f 26 (by unfold scz; omega) (by omega), f 131 (by unfold scz; omega) (by omega), f 132 (by unfold scz; omega) (by omega), f 134 (by unfold scz; omega) (by omega), e40 0 (by decide)]
    exact p
  · rw [f 64 (by unfold scz; omega) (by omega), e129 43 (by decide)]
    exact hu
  · intro k hk
    exact simN_run h h8 (by omega) (by omega) (hh k hk)
  · rw [f 64 (by unfold scz; omega) (by omega), e129 42 (by decide)]
    exact i1
  · rw [e129 42 (by decide)]
    exact i2
  · intro q
    rw [e129 42 (by decide)] at q
    exact simN_run h h8 (by omega) (by omega) (i3 q)
  · rw [f 3 (by unfold scz; omega) (by omega), e129 2 (by decide)]
    exact t1
  · rw [f 4 (by unfold scz; omega) (by omega), f 130 (by unfold scz; omega) (by omega)]
    exact t2
  · rw [f 1 (by unfold scz; omega) (by omega), e129 23 (by decide)]
    exact t3
  · rw [f 1 (by unfold scz; omega) (by omega), e129 24 (by decide)]
    exact t4
  · rw [e129 48 (by decide)]
    exact z1
  · rw [f 20 (by unfold scz; omega) (by omega)]
    exact z2
theorem RelK_8 (R : RelK D nb m) : nb ≤ 8 := by
  obtain ⟨q, q', r, _⟩ := R
  exact r.1.1.2.1
theorem Rel_N {nb m : Nat} (h : simN F D) (K : RelK F nb m) (X : RelX D nb m) : Rel F := ⟨nb, m, K, RelX_N h (RelK_8 K) X⟩
theorem Rel_sim (h : sim F D) (R : Rel D) : Rel F := by
  obtain ⟨nb, m, K, X⟩ := R
  exact ⟨nb, m, RelK_sim K h, RelX_N (simN_of h) (RelK_8 K) X⟩
end RL
/-- both calls are answered alike, and all stays beside each other -/
def tws (xs : Int → Int) (n : Int × Int) (d t mc mr : Nat) (as : List Vv) (D : Sto) : Prop := ∃ (D1 D2 : Sto) (a : Int), den d mc ((2, 1) :: as) (Sg xs n D) = some ((t, a), Sg xs n D1) ∧ den d mr ((2, 129) :: as) (Sg xs n D1) = some ((t, a), Sg xs n D2) ∧ Rel D2
section TS
variable {xs : Int → Int} {n : Int × Int} {D F : Sto} {nb m : Nat}
theorem tws_sim {d t mc mr : Nat} {as : List Vv} {D1 D2 : Sto} {a : Int} (R : Rel D) (e1 : den d mc ((2, 1) :: as) (Sg xs n D) = some ((t, a), Sg xs n D1)) (e2 : den d mr ((2, 129) :: as) (Sg xs n D1) = some ((t, a), Sg xs n D2)) (h : sim D2 D) : tws xs n d t mc mr as D := ⟨D1, D2, a, e1, e2, Rel_sim h R⟩
theorem ts_signs (R : Rel D) (d : Nat) (c : Int) : tws xs n (d + 40) 0 170 309 [(0, c)] D := by
  have R0 := R
  obtain ⟨nb, m, K, X⟩ := R
  obtain ⟨D2, h, D1, a, e1, e2⟩ := tw_signsK (xs := xs) (n := n) K d c
  exact tws_sim R0 e1 e2 h
theorem ts_ask (R : Rel D) (d : Nat) (c l2 : Int) : tws xs n (d + 40) 0 171 311 [(0, c), (0, l2)] D := by
  have R0 := R
  obtain ⟨nb, m, K, X⟩ := R
  obtain ⟨D2, h, D1, a, e1, e2⟩ := tw_ask (xs := xs) (n := n) K d c l2
  exact tws_sim R0 e1 e2 h
theorem ts_known (R : Rel D) (d : Nat) (c : Int) : tws xs n (d + 40) 0 169 305 [(0, c)] D := by
  obtain ⟨nb, m, K, X⟩ := R
  obtain ⟨D2, ⟨h, hN⟩, D1, a, e1, e2⟩ := tw_known (xs := xs) (n := n) K d c
  exact ⟨D1, D2, a, e1, e2, Rel_N hN h X⟩
theorem ts_strike (R : Rel D) (d : Nat) (c : Int) : tws xs n (d + 40) 0 168 304 [(0, c)] D := by
  obtain ⟨nb, m, K, X⟩ := R
  obtain ⟨D2, ⟨h, hN⟩, D1, a, e1, e2⟩ := tw_strike (xs := xs) (n := n) K d c
  exact ⟨D1, D2, a, e1, e2, Rel_N hN h X⟩
theorem ts_note (R : Rel D) (d : Nat) (e b r : Int) (hr : r = 0 ∨ r = 1) : tws xs n (d + 40) 0 167 303 [(0, e), (0, b), (0, r)] D := by
  obtain ⟨nb, m, K, X⟩ := R
  obtain ⟨D2, ⟨h, hN⟩, D1, a, e1, e2⟩ := tw_note (xs := xs) (n := n) K d e b r hr
  exact ⟨D1, D2, a, e1, e2, Rel_N hN h X⟩
end TS
