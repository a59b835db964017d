/-! Text: a token of the reference -/
def wdQ (f : Int → Int) (N s : Int) : Int := wdF f s (tkN f N s) 21 0
def rkK (f : Int → Int) (N s : Int) : Int := if ¬ s < N then 4 else if isL (f s) = true then (if wdQ f N s = -1 then (if 6 < tkN f N s then 5 else 1) else 0) else if isD (f s) = true then 2 else sgK (f s)
def rkV (f : Int → Int) (N s v : Int) : Int := if ¬ s < N then v else if isL (f s) = true then (if wdQ f N s = -1 ∧ ¬ 6 < tkN f N s then ((vwN f s (tkN f N s) 6 : Nat) : Int) else wdQ f N s) else if isD (f s) = true then nuR f N 700 s 0 else sgV (f s) (nxV f N (s + 1))
section S99e
variable {xs : Int → Int} {n : Int × Int} {D : Sto}
theorem k189w (d : Nat) (N : Int) (hN : D 129 16 = N) (hN7 : N ≤ 700) : ∀ (k : Nat) (i : Int) (o1 : Option Vv), 0 ≤ i → N ≤ i + k → Rn (d + 1) 189 64 [some (2, 129), o1] [] (Sg xs n (up D 129 17 i)) = Rn (d + 1) 189 71 [some (2, 129), none] [(0, 0)] (Sg xs n (up D 129 17 (stE isL (D 130) N k i))) := by
  have hv : ∀ i : Int, hrV (up D 129 17 i) = if i < N then D 130 i else -1 := fun i => by
    unfold hrV
    rw [up_at, up_ni (by decide), hN, up_ne (show ¬ (130 : Int) = 129 by decide)]
  have e186 : ∀ i : Int, 0 ≤ i → den (d + 1) 186 [(2, 129)] (Sg xs n (up D 129 17 i)) = some ((0, hrV (up D 129 17 i)), Sg xs n (up D 129 17 i)) := fun i h0 => c186 d (by rw [up_at]; exact h0) (by rw [up_ni (by decide), hN]; exact hN7)
  have no : isL (-1) = false := rfl
  intro k
  induction k with
  | zero =>
    intro i o1 h0 hi
    rw [h189_64, e186 i h0, cK0, pR0, h189_68, c187, cK0, pR0, hv, if_neg (show ¬ i < N by omega), no, bB_f (by decide)]
    rfl
  | succ k ih =>
    intro i o1 h0 hi
    rw [show stE isL (D 130) N (k + 1) i = if i < N ∧ isL (D 130 i) = true then stE isL (D 130) N k (i + 1) else i from rfl, h189_64, e186 i h0, cK0, pR0, h189_68, c187, cK0, pR0, hv]
    by_cases q : i < N
    · rw [if_pos q]
      by_cases b : isL (D 130 i) = true
      · have e : up (up D 129 17 i) 129 17 (i + 1) = up D 129 17 (i + 1) := by
          funext z j
          unfold up
          split <;> rfl
        rw [bB_t b, h189_71, if_neg (by decide), up_at, w32_idP (by omega) (by omega), e, if_pos (show i < N ∧ isL (D 130 i) = true from ⟨q, b⟩)]
        exact ih (i + 1) none (by omega) (by omega)
      · rw [bB_f b, if_neg (show ¬ (i < N ∧ isL (D 130 i) = true) from fun z => b z.2)]
    · rw [if_neg q, no, bB_f (by decide), if_neg (show ¬ (i < N ∧ isL (D 130 i) = true) from fun z => q z.1)]
theorem tokR (d : Nat) (N i : Int) (hN : D 129 16 = N) (hN7 : N ≤ 700) (hi : D 129 17 = i) (h0 : 0 ≤ i) (hiN : i ≤ N) (hb : ∀ j : Int, 0 ≤ j → j < N → 0 ≤ D 130 j ∧ D 130 j < 256) : den (d + 3) 189 [(2, 129)] (Sg xs n D) = some ((9, 0), Sg xs n (trS D (tzS (D 130) N i) (tkE (D 130) N (tzS (D 130) N i)) (rkK (D 130) N (tzS (D 130) N i)) (rkV (D 130) N (tzS (D 130) N i) (D 129 20)))) := by
  have k0 := k189 (xs := xs) (n := n) (D := D) (d + 1) N hN hN7 700 i h0 (by omega)
  have hs : tzS (D 130) N i = stE isB (D 130) N 700 i := rfl
  have bs := stE_b (p := isB) (f := D 130) 700 i hiN
  rw [← hs] at bs k0
  generalize tzS (D 130) N i = s at bs k0
  clear hs
  have e1 : den (d + 3) 189 [(2, 129)] (Sg xs n D) = Rn (d + 2) 189 13 [some (2, 129), none] [(0, hrV (up D 129 17 s))] (Sg xs n (up D 129 17 s)) := by
    have := k0.1
    rw [← hi, up_self] at this
    rw [n189, this]
  have hv : hrV (up D 129 17 s) = if s < N then D 130 s else -1 := by
    unfold hrV
    rw [up_at, up_ni (by decide), hN, up_ne (show ¬ (130 : Int) = 129 by decide)]
  have hv1 : hrV (up (up D 129 17 s) 129 18 s) = if s < N then D 130 s else -1 := by
    unfold hrV
    rw [up_ni (show ¬ (17 : Int) = 18 by decide), up_at, up_ni (show ¬ (16 : Int) = 18 by decide), up_ni (show ¬ (16 : Int) = 17 by decide), hN, up_ne (show ¬ (130 : Int) = 129 by decide), up_ne (show ¬ (130 : Int) = 129 by decide)]
  have r130 : up (up D 129 17 s) 129 18 s 130 = D 130 := by funext j; rw [up_ne (by decide), up_ne (by decide)]
  have d17 : up (up D 129 17 s) 129 18 s 129 17 = s := by rw [up_ni (by decide), up_at]
  have d16 : up (up D 129 17 s) 129 18 s 129 16 = N := by rw [up_ni (by decide), up_ni (by decide), hN]
  have d18 : up (up D 129 17 s) 129 18 s 129 18 = s := up_at
  have e43 : den (d + 3) 189 [(2, 129)] (Sg xs n D) = Rn (d + 2) 189 43 [some (2, 129), none] [(0, if s < N then D 130 s else -1)] (Sg xs n (up (up D 129 17 s) 129 18 s)) := by
    have nb : ¬ (if s < N then D 130 s else -1) = 32 := by
      by_cases q : s < N
      · rw [if_pos q]
        intro z
        exact k0.2 ⟨q, by unfold isB; simp [z]⟩
      · rw [if_neg q]
        decide
    rw [e1, h189_13, hv, if_pos nb, up_at, c186 (d + 1) (by rw [d17]; omega) (by rw [d16]; exact hN7), cK0, pR0, hv1]
  rw [e43, h189_43]
  unfold tkE rkK rkV
  by_cases q : s < N
  · have bc := hb s (by omega) q
    have o1 : Option Vv := none
    rw [if_pos q, if_pos (by omega), c187, cK0, pR0, h189_61, if_neg (show ¬ ¬ s < N from fun z => z q), if_neg (show ¬ ¬ s < N from fun z => z q), if_neg (show ¬ ¬ s < N from fun z => z q)]
    by_cases a : isL (D 130 s) = true
    · have el := tkN_e (f := D 130) (show s ≤ N by omega)
      have ll := tkN_l (f := D 130) (show s ≤ N by omega)
      have eb := stE_b (p := isL) (f := D 130) 700 s (show s ≤ N by omega)
      have kw := k189w (xs := xs) (n := n) (D := up (up D 129 17 s) 129 18 s) (d + 1) N d16 hN7 700 s (some (0, D 130 s)) (by omega) (by omega)
      rw [r130] at kw
      have e0 : up (up (up D 129 17 s) 129 18 s) 129 17 s = up (up D 129 17 s) 129 18 s := by
        have := up_self (D := up (up D 129 17 s) 129 18 s) (z := 129) (j := 17)
        rw [d17] at this
        exact this
      rw [e0] at kw
      rw [bB_t a, if_neg (by decide), if_pos a, if_pos a, if_pos a, kw]
      rw [el] at eb ⊢
      unfold wdQ
      generalize tkN (D 130) N s = len at el ll eb
      generalize hF : up (up (up D 129 17 s) 129 18 s) 129 17 (s + (len : Int)) = F
      have f18 : F 129 18 = s := by rw [← hF, up_ni (by decide), d18]
      have f17 : F 129 17 = s + len := by rw [← hF, up_at]
      have f130 : F 130 = D 130 := by rw [← hF]; funext j; rw [up_ne (by decide), r130]
      have c1 := c191 (xs := xs) (n := n) (D := F) (d + 1) s (s + len) len f18 f17 (by omega) rfl (by omega)
      rw [f130] at c1
      rw [h189_71, if_pos rfl, c1, cK0]
      generalize hw : wdF (D 130) s len 21 0 = w
      show Rn (d + 2) 189 92 [some (2, 129), none] [(0, w), (2, 129)] (Sg xs n F) = _
      have fin : ∀ k v : Int, up (up F 129 20 v) 129 19 k = trS D s (s + len) k v := by
        intro k v
        rw [← hF]
        funext z j
        unfold up trS
        by_cases hz : z = 129
        · subst hz
          simp only [true_and, if_true]
          (repeat' split) <;> first | rfl | (exfalso; omega) | (subst_vars; rfl)
        · simp only [hz, false_and, if_false]
      have fin2 : ∀ v : Int, up (trS D s (s + len) 1 w) 129 20 v = trS D s (s + len) 1 v := by
        intro v
        funext z j
        unfold up trS
        by_cases hz : z = 129
        · subst hz
          simp only [true_and, if_true]
          (repeat' split) <;> first | rfl | (exfalso; omega) | (subst_vars; rfl)
        · simp only [hz, false_and, if_false]
      rw [h189_92, f17, f18, w32_idP (by omega) (by omega)]
      by_cases c : w = -1
      · rw [if_pos c, if_pos c]
        by_cases g : 6 < len
        · rw [if_neg (fun z => z (by omega)), h189_127, if_pos (by decide), h189_225, fin, if_pos g, if_neg (show ¬ (w = -1 ∧ ¬ 6 < len) from fun z => z.2 g)]
        · have k := k192 (xs := xs) (n := n) (D := trS D s (s + len) 1 w) (d + 1) s (s + len) len rfl rfl (by omega) rfl (by omega) (fun p hp => (ll p hp).2) 6 0 (by omega)
          rw [show vwN (trS D s (s + len) 1 w 130) s len 0 = 0 from rfl, show trS D s (s + len) 1 w 130 = D 130 from rfl] at k
          rw [if_pos (by omega), h189_127, if_neg (fun z => z rfl), fin, n192, h192_0, if_neg g, if_pos (show w = -1 ∧ ¬ 6 < len from ⟨c, g⟩)]
          rw [show (0 : Int) = ((0 : Nat) : Int) from rfl] 
          rw [k, fin2, cK9]
          show Rn (d + 2) 189 142 [some (2, 129), none] [] _ = _
          rw [h189_142, h189_225]
          rfl
      · rw [if_neg c, if_neg c, h189_127, if_pos (by decide), h189_225, fin, if_neg (show ¬ (w = -1 ∧ ¬ 6 < len) from fun z => c z.1)]
    · rw [bB_f a, if_pos rfl, if_neg a, if_neg a, if_neg a, c188, cK0, pR0, h189_149]
      by_cases b : isD (D 130 s) = true
      · have fin : ∀ v e : Int, u2 (up (up (up D 129 17 s) 129 18 s) 129 19 2) 129 20 17 v e = trS D s e 2 v := by
          intro v e
          funext z j
          unfold u2 up trS
          by_cases hz : z = 129
          · subst hz
            simp only [true_and, if_true]
            (repeat' split) <;> first | rfl | (exfalso; omega) | (subst_vars; rfl)
          · simp only [hz, false_and, if_false]
        have k := k189n (xs := xs) (n := n) (D := up (up (up D 129 17 s) 129 18 s) 129 19 2) (d + 1) N (by rw [up_ni (by decide), d16]) hN7 700 s 0 (some (0, D 130 s)) (by omega) (by omega) (by omega)
        rw [show up (up (up D 129 17 s) 129 18 s) 129 19 2 130 = D 130 by funext j; rw [up_ne (by decide), r130]] at k
        rw [bB_t b, if_neg (by decide), if_pos b, if_pos b, if_pos b, u2_self (b := 17) (y := s) (by rw [up_ni (by decide), d17]) (by decide), k, fin]
      · have k := c190 (xs := xs) (n := n) (D := up (up D 129 17 s) 129 18 s) d (D 130 s) N s d17 d16 (by omega) hN7 q bc.2
        rw [r130] at k
        have fin : ∀ k v e : Int, tkR (up (up D 129 17 s) 129 18 s) k v e = trS D s e k v := by
          intro k v e
          funext z j
          unfold tkR up trS
          by_cases hz : z = 129
          · subst hz
            simp only [true_and, if_true]
            (repeat' split) <;> first | rfl | (exfalso; omega) | (subst_vars; rfl)
          · simp only [hz, false_and, if_false]
        rw [bB_f b, if_pos rfl, if_neg b, if_neg b, if_neg b, k, cK9]
        show Rn (d + 2) 189 225 [some (2, 129), some (0, D 130 s)] [] _ = _
        rw [h189_225, fin]
  · have fin : up (up (up D 129 17 s) 129 18 s) 129 19 4 = trS D s s 4 (D 129 20) := by
      funext z j
      unfold up trS
      by_cases hz : z = 129
      · subst hz
        simp only [true_and, if_true]
        (repeat' split) <;> first | rfl | (exfalso; omega) | (subst_vars; rfl)
      · simp only [hz, false_and, if_false]
    rw [if_neg q, if_neg (fun z => z rfl), h189_225, fin, if_pos q, if_pos q, if_pos q]
end S99e
