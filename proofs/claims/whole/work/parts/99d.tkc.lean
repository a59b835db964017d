/-! Text: a token of the class -/
def tcS (D : Sto) (s e k x y : Int) : Sto := fun z j => if z = 3 then (if j = 3 then e else if j = 4 then k else if j = 5 then s else if j = 6 then x else if j = 7 then y else D 3 j) else D z j
def trS (D : Sto) (s e k v : Int) : Sto := fun z j => if z = 129 then (if j = 17 then e else if j = 18 then s else if j = 19 then k else if j = 20 then v else D 129 j) else D z j
def tzS (f : Int → Int) (N i : Int) : Int := stE isB f N 700 i
def tkN (f : Int → Int) (N s : Int) : Nat := (stE isL f N 700 s - s).toNat
def tkE (f : Int → Int) (N s : Int) : Int := if ¬ s < N then s else if isL (f s) = true then stE isL f N 700 s else if isD (f s) = true then stE isD f N 700 s else if sgV (f s) (nxV f N (s + 1)) < 256 then s + 1 else s + 2
def tkK (f : Int → Int) (N s : Int) : Int := if ¬ s < N then -38 else if isL (f s) = true then (if 6 < tkN f N s then -39 else lkT (cdP f s (tkN f N s) (tkN f N s)) (-37)) else if isD (f s) = true then -36 else lkT (cdC (f s) (nxV f N (s + 1))) (-39)
def tk6 (f : Int → Int) (N s x : Int) : Int := if s < N ∧ isL (f s) = true then cdP f s (tkN f N s) (tkN f N s) else x
def tk7 (f : Int → Int) (N s x : Int) : Int := if s < N ∧ isL (f s) = false ∧ isD (f s) = true then nuC f N 700 s 0 else x
theorem stE_all {p : Int → Bool} {f : Int → Int} {N : Int} : ∀ (k : Nat) (i j : Int), i ≤ j → j < stE p f N k i → j < N ∧ p (f j) = true := by
  intro k
  induction k with
  | zero =>
    intro i j h1 h2
    have e : stE p f N 0 i = i := rfl
    rw [e] at h2
    omega
  | succ k ih =>
    intro i j h1 h2
    rw [show stE p f N (k + 1) i = if i < N ∧ p (f i) = true then stE p f N k (i + 1) else i from rfl] at h2
    by_cases q : i < N ∧ p (f i) = true
    · rw [if_pos q] at h2
      by_cases c : j = i
      · rw [c]; exact q
      · exact ih (i + 1) j (by omega) h2
    · rw [if_neg q] at h2
      omega
theorem tkN_e {f : Int → Int} {N s : Int} (h : s ≤ N) : stE isL f N 700 s = s + (tkN f N s : Int) := by
  have := (stE_b (p := isL) (f := f) 700 s h).1
  unfold tkN
  omega
theorem tkN_l {f : Int → Int} {N s : Int} (h : s ≤ N) : ∀ p : Nat, p < tkN f N s → s + p < N ∧ isL (f (s + p)) = true := by
  intro p hp
  have e := tkN_e (f := f) h
  exact stE_all 700 s (s + p) (by omega) (by omega)
theorem tkN_p {f : Int → Int} {N s : Int} (h : s < N) (h1 : isL (f s) = true) : 0 < tkN f N s := by
  have b := (stE_b (p := isL) (f := f) (N := N) 699 (s + 1) (by omega)).1
  have e : stE isL f N 700 s = stE isL f N 699 (s + 1) := by
    rw [show stE isL f N 700 s = if s < N ∧ isL (f s) = true then stE isL f N 699 (s + 1) else s from rfl, if_pos ⟨h, h1⟩]
  unfold tkN
  omega
theorem up_self {D : Sto} {z j : Int} : up D z j (D z j) = D := by
  funext y i
  unfold up
  by_cases q : y = z ∧ i = j
  · rw [if_pos q, q.1, q.2]
  · rw [if_neg q]
theorem u2_self {D : Sto} {z a b x y : Int} (h : D z b = y) (hab : ¬ a = b) : up D z a x = u2 D z a b x y := by
  funext c j
  unfold u2 up
  by_cases q : c = z ∧ j = b
  · rw [if_pos q, if_neg (by omega), q.1, q.2]
    exact h
  · rw [if_neg q]
section S99d
variable {xs : Int → Int} {n : Int × Int} {D : Sto}
theorem tokC (d : Nat) (N i : Int) (hN : D 3 2 = N) (hN7 : N ≤ 700) (hi : D 3 3 = i) (h0 : 0 ≤ i) (hiN : i ≤ N) (hb : ∀ j : Int, 0 ≤ j → j < N → 0 ≤ D 4 j ∧ D 4 j < 256) : den (d + 3) 116 [(2, 3)] (Sg xs n D) = some ((9, 0), Sg xs n (tcS D (tzS (D 4) N i) (tkE (D 4) N (tzS (D 4) N i)) (tkK (D 4) N (tzS (D 4) N i)) (tk6 (D 4) N (tzS (D 4) N i) (D 3 6)) (tk7 (D 4) N (tzS (D 4) N i) (D 3 7)))) := by
  have e1 : den (d + 3) 116 [(2, 3)] (Sg xs n D) = Rn (d + 2) 116 52 [some (2, 3)] [] (Sg xs n (up D 3 3 (tzS (D 4) N i))) := by
    have := k116 (xs := xs) (n := n) (D := D) (d + 2) N hN hN7 700 i h0 (by omega)
    rw [← hi, up_self] at this
    rw [n116, this, hi]
    rfl
  have bs := stE_b (p := isB) (f := D 4) 700 i hiN
  have hs : tzS (D 4) N i = stE isB (D 4) N 700 i := rfl
  rw [e1]
  rw [← hs] at bs
  generalize tzS (D 4) N i = s at bs
  clear e1 hs
  have r33 : up D 3 3 s 3 3 = s := up_at
  have r4 : up (up D 3 3 s) 3 5 s 4 = D 4 := by funext j; rw [up_ne (by decide), up_ne (by decide)]
  have e93 : s < N → Rn (d + 2) 116 52 [some (2, 3)] [] (Sg xs n (up D 3 3 s)) = Rn (d + 2) 116 93 [some (2, 3)] [(0, bB (isL (D 4 s) = true))] (Sg xs n (up (up D 3 3 s) 3 5 s)) := by
    intro q
    rw [h116_52, r33, up_ni (by decide), hN, if_pos q, if_pos (inb_t (by omega) (by omega)), up_ne (show ¬ (4 : Int) = 3 by decide), c117, cK0, pR0]
  by_cases q : s < N
  · have t := inb_t (show 0 ≤ s by omega) (show s < 700 by omega)
    have d33 : up (up D 3 3 s) 3 5 s 3 3 = s := by rw [up_ni (by decide), up_at]
    have d32 : up (up D 3 3 s) 3 5 s 3 2 = N := by rw [up_ni (by decide), up_ni (by decide), hN]
    have d35 : up (up D 3 3 s) 3 5 s 3 5 = s := up_at
    rw [e93 q, h116_93]
    unfold tkE tkK tk6 tk7
    rw [if_neg (show ¬ ¬ s < N from fun z => z q), if_neg (show ¬ ¬ s < N from fun z => z q)]
    by_cases a : isL (D 4 s) = true
    · have el := tkN_e (f := D 4) (show s ≤ N by omega)
      have ll := tkN_l (f := D 4) (show s ≤ N by omega)
      have ee := stE_e (p := isL) (f := D 4) (N := N) 700 s (by omega)
      have eb := stE_b (p := isL) (f := D 4) 700 s (show s ≤ N by omega)
      rw [bB_t a, if_neg (by decide), if_pos a, if_pos a, if_pos (show s < N ∧ isL (D 4 s) = true from ⟨q, a⟩), if_neg (show ¬ (s < N ∧ isL (D 4 s) = false ∧ isD (D 4 s) = true) from fun z => by rw [a] at z; exact absurd z.2.1 (by decide))]
      rw [el] at ee eb ⊢
      generalize tkN (D 4) N s = len at el ll ee eb
      have k := k119 (xs := xs) (n := n) (D := up (up D 3 3 s) 3 5 s) d N s len d32 hN7 d35 (by omega) (by rw [r4]; exact ll) (by rw [r4]; exact ee) len 0 (by omega)
      rw [r4] at k
      have c0 : cdP (D 4) s len 0 = 0 := by
        unfold cdP
        rw [Nat.min_eq_left (by omega)]
        show (((0 : Nat) * 32 ^ (6 - 0) : Nat) : Int) = 0
        rw [Nat.zero_mul]
        rfl
      rw [c0] at k
      have fin : ∀ kk : Int, up (u2 (up (up D 3 3 s) 3 5 s) 3 6 3 (cdP (D 4) s len len) (s + len)) 3 4 kk = tcS D s (s + len) kk (cdP (D 4) s len len) (D 3 7) := by
        intro kk
        funext z j
        unfold u2 up tcS
        by_cases hz : z = 3
        · subst hz
          simp only [true_and, if_true]
          (repeat' split) <;> first | rfl | (exfalso; omega) | (subst_vars; rfl)
        · simp only [hz, false_and, if_false]
      have d119 : den (d + 2) 119 [(2, 3)] (Sg xs n (up (up D 3 3 s) 3 5 s)) = some ((9, 0), Sg xs n (tcS D s (s + len) (if 6 < len then -39 else lkT (cdP (D 4) s len len) (-37)) (cdP (D 4) s len len) (D 3 7))) := by
        rw [n119, h119_0, u2_self (b := 3) (y := s + ((0 : Nat) : Int)) (by rw [d33]; omega) (by decide), k, h119_87, u2_b, u2_i (by decide) (by decide), d35, w32_idP (by omega) (by omega)]
        by_cases c : 6 < len
        · rw [if_neg (fun z => z (by omega)), h119_118, if_pos c, fin]
        · rw [if_pos (by omega), u2_a (by decide), c34a, cK2]
          show Rn (d + 1) 119 118 [some (2, 3)] [(2, lkT (cdP (D 4) s len len) (-37)), (2, 3)] _ = _
          rw [h119_118, if_neg c, fin]
      rw [d119, cK9]
      show Rn (d + 2) 116 100 [some (2, 3)] [] _ = _
      rw [h116_100, h116_129]
    · have af : isL (D 4 s) = false := by
        cases h : isL (D 4 s)
        · rfl
        · exact absurd h a
      rw [bB_f a, if_pos rfl, d33, if_pos t, r4, c118, cK0, pR0, h116_115, if_neg a, if_neg a, if_neg (show ¬ (s < N ∧ isL (D 4 s) = true) from fun z => a z.2)]
      by_cases b : isD (D 4 s) = true
      · rw [bB_t b, if_neg (by decide), if_pos b, if_pos b, if_pos (show s < N ∧ isL (D 4 s) = false ∧ isD (D 4 s) = true from ⟨q, af, b⟩)]
        have k := k120 (xs := xs) (n := n) (D := up (up D 3 3 s) 3 5 s) (d + 0) N d32 hN7 700 s 0 (by omega) (by omega) (by omega)
        rw [r4] at k
        have fin : ∀ v e : Int, up (u2 (up (up D 3 3 s) 3 5 s) 3 7 3 v e) 3 4 (-36) = tcS D s e (-36) (D 3 6) v := by
          intro v e
          funext z j
          unfold u2 up tcS
          by_cases hz : z = 3
          · subst hz
            simp only [true_and, if_true]
            (repeat' split) <;> first | rfl | (exfalso; omega) | (subst_vars; rfl)
          · simp only [hz, false_and, if_false]
        have d120 : den (d + 2) 120 [(2, 3)] (Sg xs n (up (up D 3 3 s) 3 5 s)) = some ((9, 0), Sg xs n (tcS D s (stE isD (D 4) N 700 s) (-36) (D 3 6) (nuC (D 4) N 700 s 0))) := by
          rw [n120, h120_0, u2_self (b := 3) (y := s) d33 (by decide)]
          exact k.trans (by rw [h120_73, fin])
        rw [d120, cK9]
        show Rn (d + 2) 116 122 [some (2, 3)] [] _ = _
        rw [h116_122, h116_129]
      · have k := c121 (xs := xs) (n := n) (D := up (up D 3 3 s) 3 5 s) d N s d33 d32 (by omega) hN7 q (by rw [r4]; exact hb)
        rw [r4] at k
        rw [bB_f b, if_pos rfl, if_neg b, if_neg b, if_neg (show ¬ (s < N ∧ isL (D 4 s) = false ∧ isD (D 4 s) = true) from fun z => b z.2.2), k, cK9]
        show Rn (d + 2) 116 129 [some (2, 3)] [] _ = _
        rw [h116_129]
        have fin : ∀ e kk : Int, up (up (up (up D 3 3 s) 3 5 s) 3 3 e) 3 4 kk = tcS D s e kk (D 3 6) (D 3 7) := by
          intro e kk
          funext z j
          unfold up tcS
          by_cases hz : z = 3
          · subst hz
            simp only [true_and, if_true]
            (repeat' split) <;> first | rfl | (exfalso; omega) | (subst_vars; rfl)
          · simp only [hz, false_and, if_false]
        rw [fin]
  · rw [h116_52, r33, up_ni (by decide), hN, if_neg q, h116_129]
    unfold tkE tkK tk6 tk7
    rw [if_pos q, if_pos q, if_neg (show ¬ (s < N ∧ isL (D 4 s) = true) from fun z => q z.1), if_neg (show ¬ (s < N ∧ isL (D 4 s) = false ∧ isD (D 4 s) = true) from fun z => q z.1)]
    have fin : up (up (up D 3 3 s) 3 5 s) 3 4 (-38) = tcS D s s (-38) (D 3 6) (D 3 7) := by
      funext z j
      unfold up tcS
      by_cases hz : z = 3
      · subst hz
        simp only [true_and, if_true]
        (repeat' split) <;> first | rfl | (exfalso; omega) | (subst_vars; rfl)
      · simp only [hz, false_and, if_false]
    rw [fin]
end S99d
