/-! Text: signs of the class -/
def cdC (c x : Int) : Int := if (c = 60 ∧ (x = 61 ∨ x = 62)) ∨ (c = 62 ∧ x = 61) then c * 256 + x else c
/-- the class's constant of a sign -/
def sgC (v : Int) : Int := if v = 60 then -23 else if v = 256 then -24 else if v = 61 then -25 else if v = 257 then -26 else if v = 258 then -27 else if v = 62 then -28 else if v = 43 then -29 else if v = 45 then -30 else if v = 42 then -31 else if v = 47 then -32 else if v = 40 then -33 else if v = 41 then -34 else -35
theorem lk_all : ∀ c : Fin 256, lkT ((c.val : Nat) : Int) (-39) = if sgK ((c.val : Nat) : Int) = 3 then sgC ((c.val : Nat) : Int) else -39 := by decide +kernel
theorem lk_sg {c x : Int} (h0 : 0 ≤ c) (h1 : c < 256) : lkT (cdC c x) (-39) = if sgK c = 3 then sgC (sgV c x) else -39 := by
  unfold cdC sgV
  by_cases a : c = 60 ∧ x = 61
  · rw [if_pos (Or.inl ⟨a.1, Or.inl a.2⟩), if_pos a, a.1, a.2]
    decide +kernel
  · rw [if_neg a]
    by_cases b : c = 60 ∧ x = 62
    · rw [if_pos (Or.inl ⟨b.1, Or.inr b.2⟩), if_pos b, b.1, b.2]
      decide +kernel
    · rw [if_neg b]
      by_cases e : c = 62 ∧ x = 61
      · rw [if_pos (Or.inr e), if_pos e, e.1, e.2]
        decide +kernel
      · rw [if_neg (by omega), if_neg e]
        have := lk_all ⟨c.toNat, by omega⟩
        have ec : ((c.toNat : Nat) : Int) = c := Int.toNat_of_nonneg h0
        simp only [ec] at this
        exact this
section S98a
variable {xs : Int → Int} {n : Int × Int} {D : Sto}
theorem c121 (d : Nat) (N i : Int) (hi : D 3 3 = i) (hN : D 3 2 = N) (h0 : 0 ≤ i) (hN7 : N ≤ 700) (hiN : i < N) (hb : ∀ j : Int, 0 ≤ j → j < N → 0 ≤ D 4 j ∧ D 4 j < 256) : den (d + 2) 121 [(2, 3)] (Sg xs n D) = some ((9, 0), Sg xs n (up (up D 3 3 (if sgV (D 4 i) (nxV (D 4) N (i + 1)) < 256 then i + 1 else i + 2)) 3 4 (lkT (cdC (D 4 i) (nxV (D 4) N (i + 1))) (-39)))) := by
  have bc := hb i h0 hiN
  have t := inb_t h0 (show i < 700 by omega)
  generalize hc : D 4 i = c at bc
  have u3 : ∀ a b : Int, up (up D 3 3 a) 3 3 b = up D 3 3 b := fun a b => by
    funext z j
    unfold up
    split <;> rfl
  have u4 : ∀ a : Int, up D 3 3 a 4 = D 4 := fun a => funext (fun j => up_ne (by decide))
  have s113 : ∀ (code j : Int) (o2 : Option Vv), Rn (d + 1) 121 113 [some (2, 3), some (0, code), o2] [] (Sg xs n (up D 3 3 j)) = some ((9, 0), Sg xs n (up (up D 3 3 j) 3 4 (lkT code (-39)))) := by
    intro code j o2
    rw [h121_113, c34b, cK2]
    show Rn (d + 1) 121 121 [some (2, 3), some (0, code), none] [(2, lkT code (-39)), (2, 3)] (Sg xs n (up D 3 3 j)) = _
    rw [h121_121]
  have s37 : den (d + 2) 121 [(2, 3)] (Sg xs n D) = Rn (d + 1) 121 37 [some (2, 3), some (0, c), none] [(0, bB (c = 60 ∨ c = 62))] (Sg xs n (up D 3 3 (i + 1))) := by
    rw [n121, h121_0, hi, if_pos t, hc, w32_idP (by omega) (by omega)]
    simp only [h121_32]
    by_cases a : c = 60
    · rw [if_pos a, bB_t (Or.inl a)]
    · rw [if_neg a]
      by_cases b : c = 62
      · rw [if_neg (fun z => z b), bB_t (Or.inr b)]
      · rw [if_pos b, bB_f (by omega)]
  rw [s37, h121_37, up_at, up_ni (by decide), hN, u4]
  by_cases a : c = 60 ∨ c = 62
  · rw [bB_t a, if_neg (by decide)]
    by_cases q : i + 1 < N
    · have bx := hb (i + 1) (by omega) q
      have t2 := inb_t (show 0 ≤ i + 1 by omega) (show i + 1 < 700 by omega)
      have ex : nxV (D 4) N (i + 1) = D 4 (i + 1) := by
        unfold nxV
        rw [if_pos q]
      rw [if_neg (fun z => z q), if_pos t2, ex]
      generalize hx : D 4 (i + 1) = x at bx
      have s87 : ∀ o2 : Option Vv, (c = 60 ∧ (x = 61 ∨ x = 62)) ∨ (c = 62 ∧ x = 61) → Rn (d + 1) 121 87 [some (2, 3), some (0, c), o2] [] (Sg xs n (up D 3 3 (i + 1))) = some ((9, 0), Sg xs n (up (up D 3 3 (if sgV c x < 256 then i + 1 else i + 2)) 3 4 (lkT (cdC c x) (-39)))) := by
        intro o2 w
        have v : ¬ sgV c x < 256 := by
          unfold sgV
          by_cases w1 : c = 60 ∧ x = 61
          · rw [if_pos w1]; decide
          · rw [if_neg w1]
            by_cases w2 : c = 60 ∧ x = 62
            · rw [if_pos w2]; decide
            · rw [if_neg w2, if_pos (by omega)]; decide
        rw [h121_87, up_at, if_pos t2, u4, hx, w32_idP (z := c * 256) (by omega) (by omega), w32_idP (z := c * 256 + x) (by omega) (by omega), w32_idP (z := i + 1 + 1) (by omega) (by omega), u3, s113, if_neg v, show i + 1 + 1 = i + 2 by omega]
        unfold cdC
        rw [if_pos w]
      have s1 : ¬ ((c = 60 ∧ (x = 61 ∨ x = 62)) ∨ (c = 62 ∧ x = 61)) → ∀ o2 : Option Vv, Rn (d + 1) 121 113 [some (2, 3), some (0, c), o2] [] (Sg xs n (up D 3 3 (i + 1))) = some ((9, 0), Sg xs n (up (up D 3 3 (if sgV c x < 256 then i + 1 else i + 2)) 3 4 (lkT (cdC c x) (-39)))) := by
        intro w o2
        have v : sgV c x < 256 := by
          unfold sgV
          rw [if_neg (by omega), if_neg (by omega), if_neg (by omega)]
          omega
        rw [s113, if_pos v]
        unfold cdC
        rw [if_neg w]
      by_cases b : x = 61
      · rw [if_pos b]
        exact s87 _ (by omega)
      · rw [if_neg b]
        by_cases e : c = 60
        · rw [if_neg (fun z => z e), if_pos t2]
          by_cases g : x = 62
          · rw [if_neg (fun z => z g)]
            exact s87 _ (by omega)
          · rw [if_pos g]
            exact s1 (by omega) _
        · rw [if_pos e]
          exact s1 (by omega) _
    · have ex : nxV (D 4) N (i + 1) = -1 := by
        unfold nxV
        rw [if_neg q]
      rw [if_pos q, ex, s113]
      have v : sgV c (-1) < 256 := by
        unfold sgV
        rw [if_neg (by omega), if_neg (by omega), if_neg (by omega)]
        omega
      rw [if_pos v]
      unfold cdC
      rw [if_neg (by omega)]
  · rw [bB_f a, if_pos rfl, s113]
    have v : sgV c (nxV (D 4) N (i + 1)) < 256 := by
      unfold sgV
      rw [if_neg (by omega), if_neg (by omega), if_neg (by omega)]
      omega
    rw [if_pos v]
    unfold cdC
    rw [if_neg (by omega)]
end S98a
