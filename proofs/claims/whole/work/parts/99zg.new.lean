/-! Text: the run begins anew, on both sides -/
def z48 (C : Sto) (k : Int) : Sto := fun z j => if z = 48 ∧ 0 ≤ j ∧ j < k then 0 else C z j
theorem z48_s {C : Sto} {k : Nat} : up (z48 C (k : Int)) 48 (k : Int) 0 = z48 C ((k + 1 : Nat) : Int) := by
  funext z j
  unfold up z48
  by_cases a : z = 48 ∧ j = (k : Int)
  · rw [if_pos a, if_pos (by omega)]
  · rw [if_neg a]
    by_cases b : z = 48 ∧ 0 ≤ j ∧ j < (k : Int)
    · rw [if_pos b, if_pos (by omega)]
    · rw [if_neg b, if_neg (by omega)]
theorem z48_0 {C : Sto} : z48 C ((0 : Nat) : Int) = C := by
  funext z j
  unfold z48
  rw [if_neg (by omega)]
def rn0 (F : Sto) : Sto := up (up (up (up (up (up (up (up (up (up F 46 2 (F 26 5)) 46 3 0) 46 7 0) 46 8 0) 46 9 0) 46 10 0) 46 11 (F 26 8)) 46 5 0) 46 4 0) 46 6 0
def rn1 (F : Sto) : Sto := up (up (up (rn0 F) 46 4 0) 46 5 (F 47 0)) 46 6 0
def hll (R : Sto) : Sto := hfS (hfS (hfS (hfS (hfS (hfS (hfS (hfS (hfS (hfS (hfS R 131 7 7) 132 8 8) 133 8 8) 134 8 8) 135 8 8) 136 16 16) 137 16 16) 138 3 3) 139 3 3) 140 64 64) 141 64 64
def stS (F : Sto) (nb k : Int) : Sto := fun z j => if z = 154 ∧ 0 ≤ j ∧ j < k then (if j < nb then F 133 j else 0) else if z = 155 ∧ 0 ≤ j ∧ j < k then 0 else F z j
theorem hf_n {R : Sto} {z h k c : Int} (q : ¬ c = z) : hfS R z h k c = R c := by
  funext j
  unfold hfS
  rw [if_neg (fun y => q y.1)]
theorem hf_at {R : Sto} {z h k j : Int} (h0 : 0 ≤ j) (h1 : j < k) : hfS R z h k z j = R z (h + j) := by
  unfold hfS
  rw [if_pos ⟨rfl, h0, h1⟩]
section S99zg
variable {xs : Int → Int} {n : Int × Int} {C R : Sto} {nb m d0 : Nat}
theorem rn_f {z : Int} (h : ¬ z = 46) : rn0 C z = C z ∧ rn1 C z = C z := by
  have e0 : rn0 C z = C z := by
    funext j
    unfold rn0
    rw [up_ne h, up_ne h, up_ne h, up_ne h, up_ne h, up_ne h, up_ne h, up_ne h, up_ne h, up_ne h]
  refine ⟨e0, ?_⟩
  funext j
  unfold rn1
  rw [up_ne h, up_ne h, up_ne h, e0]
theorem rn_v0 : rn0 C 46 2 = C 26 5 ∧ rn0 C 46 3 = 0 ∧ rn0 C 46 4 = 0 ∧ rn0 C 46 5 = 0 ∧ rn0 C 46 6 = 0 ∧ rn0 C 46 7 = 0 ∧ rn0 C 46 8 = 0 ∧ rn0 C 46 9 = 0 ∧ rn0 C 46 10 = 0 ∧ rn0 C 46 11 = C 26 8 := ⟨rfl, rfl, rfl, rfl, rfl, rfl, rfl, rfl, rfl, rfl⟩
theorem rn_v1 : rn1 C 46 2 = C 26 5 ∧ rn1 C 46 3 = 0 ∧ rn1 C 46 4 = 0 ∧ rn1 C 46 5 = C 47 0 ∧ rn1 C 46 6 = 0 ∧ rn1 C 46 7 = 0 ∧ rn1 C 46 8 = 0 ∧ rn1 C 46 9 = 0 ∧ rn1 C 46 10 = 0 ∧ rn1 C 46 11 = C 26 8 := ⟨rfl, rfl, rfl, rfl, rfl, rfl, rfl, rfl, rfl, rfl⟩
theorem e92 (d : Nat) (h30 : C 30 0 = (nb : Int)) : dcl xs n (d + 2) 92 [(2, 46), (2, 26)] C (9, 0) (if 0 < nb then rn1 (z48 (cpy C 28 0 47 0 8) 8) else rn0 (z48 (cpy C 28 0 47 0 8) 8)) := by
  intro R0
  have st : ∀ (F : Sto) (r k : Nat), k + r = 8 → Rn (d + 1) 92 17 [some (2, 46), some (2, 26), some (0, (k : Int))] [] (Sg xs n (mix (z48 F (k : Int)) R0)) = Rn (d + 1) 92 17 [some (2, 46), some (2, 26), some (0, 8)] [] (Sg xs n (mix (z48 F 8) R0)) := by
    intro F r
    induction r with
    | zero =>
      intro k hk
      have e : k = 8 := by omega
      subst e
      rfl
    | succ r ih =>
      intro k hk
      rw [h92_17, if_neg (by omega), if_pos (inb_t (by omega) (by omega)), w1 (by omega), mix_uc (by decide), z48_s]
      exact ih (k + 1) (by omega)
  have s := st (cpy C 28 0 47 0 8) 8 0 (by decide)
  rw [z48_0] at s
  have f30 : z48 (cpy C 28 0 47 0 8) 8 30 0 = (nb : Int) := by
    unfold z48
    rw [if_neg (by omega), cpy_ne (by decide)]
    exact h30
  rw [n92, h92_0, mix_cpy (by decide) (by decide)]
  have s' : Rn (d + 1) 92 17 [some (2, 46), some (2, 26), some (0, 0)] [] (Sg xs n (mix (cpy C 28 0 47 0 8) R0)) = Rn (d + 1) 92 17 [some (2, 46), some (2, 26), some (0, 8)] [] (Sg xs n (mix (z48 (cpy C 28 0 47 0 8) 8) R0)) := s
  rw [s', h92_17, if_pos (by decide)]
  generalize z48 (cpy C 28 0 47 0 8) 8 = F at f30
  have m26 : mix F R0 26 = F 26 := mix_c (by decide)
  have m30 : mix F R0 30 = F 30 := mix_c (by decide)
  rw [m30, f30]
  simp only [m26, mix_uc (show (46 : Int) < 129 by decide)]
  by_cases q : 0 < nb
  · rw [if_neg (by omega), if_pos q, n93a, h93a_0, cK9, pRv, h92_107]
    have m47 : ∀ G : Sto, mix G R0 47 = G 47 := fun G => mix_c (by decide)
    simp only [m47, mix_uc (show (46 : Int) < 129 by decide)]
    rfl
  · rw [if_pos (by omega), if_neg q, h92_107]
    rfl
theorem hll_f {z : Int} (h : ¬ (131 ≤ z ∧ z ≤ 141)) : hll R z = R z := by
  unfold hll
  rw [hf_n (by omega), hf_n (by omega), hf_n (by omega), hf_n (by omega), hf_n (by omega), hf_n (by omega), hf_n (by omega), hf_n (by omega), hf_n (by omega), hf_n (by omega), hf_n (by omega)]
theorem hll_7 {j : Int} (h0 : 0 ≤ j) (h1 : j < 7) : hll R 131 j = R 131 (7 + j) := by
  unfold hll
  rw [hf_n (by decide), hf_n (by decide), hf_n (by decide), hf_n (by decide), hf_n (by decide), hf_n (by decide), hf_n (by decide), hf_n (by decide), hf_n (by decide), hf_n (by decide), hf_at h0 h1]
theorem hll_8 {j : Int} (h0 : 0 ≤ j) (h1 : j < 8) : hll R 132 j = R 132 (8 + j) ∧ hll R 133 j = R 133 (8 + j) ∧ hll R 134 j = R 134 (8 + j) ∧ hll R 135 j = R 135 (8 + j) := by
  unfold hll
  refine ⟨?_, ?_, ?_, ?_⟩
  · rw [hf_n (by decide), hf_n (by decide), hf_n (by decide), hf_n (by decide), hf_n (by decide), hf_n (by decide), hf_n (by decide), hf_n (by decide), hf_n (by decide), hf_at h0 h1, hf_n (by decide)]
  · rw [hf_n (by decide), hf_n (by decide), hf_n (by decide), hf_n (by decide), hf_n (by decide), hf_n (by decide), hf_n (by decide), hf_n (by decide), hf_at h0 h1, hf_n (by decide), hf_n (by decide)]
  · rw [hf_n (by decide), hf_n (by decide), hf_n (by decide), hf_n (by decide), hf_n (by decide), hf_n (by decide), hf_n (by decide), hf_at h0 h1, hf_n (by decide), hf_n (by decide), hf_n (by decide)]
  · rw [hf_n (by decide), hf_n (by decide), hf_n (by decide), hf_n (by decide), hf_n (by decide), hf_n (by decide), hf_at h0 h1, hf_n (by decide), hf_n (by decide), hf_n (by decide), hf_n (by decide)]
theorem hll_16 {j : Int} (h0 : 0 ≤ j) (h1 : j < 16) : hll R 136 j = R 136 (16 + j) ∧ hll R 137 j = R 137 (16 + j) := by
  unfold hll
  refine ⟨?_, ?_⟩
  · rw [hf_n (by decide), hf_n (by decide), hf_n (by decide), hf_n (by decide), hf_n (by decide), hf_at h0 h1, hf_n (by decide), hf_n (by decide), hf_n (by decide), hf_n (by decide), hf_n (by decide)]
  · rw [hf_n (by decide), hf_n (by decide), hf_n (by decide), hf_n (by decide), hf_at h0 h1, hf_n (by decide), hf_n (by decide), hf_n (by decide), hf_n (by decide), hf_n (by decide), hf_n (by decide)]
theorem hll_3 {j : Int} (h0 : 0 ≤ j) (h1 : j < 3) : hll R 138 j = R 138 (3 + j) ∧ hll R 139 j = R 139 (3 + j) := by
  unfold hll
  refine ⟨?_, ?_⟩
  · rw [hf_n (by decide), hf_n (by decide), hf_n (by decide), hf_at h0 h1, hf_n (by decide), hf_n (by decide), hf_n (by decide), hf_n (by decide), hf_n (by decide), hf_n (by decide), hf_n (by decide)]
  · rw [hf_n (by decide), hf_n (by decide), hf_at h0 h1, hf_n (by decide), hf_n (by decide), hf_n (by decide), hf_n (by decide), hf_n (by decide), hf_n (by decide), hf_n (by decide), hf_n (by decide)]
theorem hll_64 {j : Int} (h0 : 0 ≤ j) (h1 : j < 64) : hll R 140 j = R 140 (64 + j) ∧ hll R 141 j = R 141 (64 + j) := by
  unfold hll
  refine ⟨?_, ?_⟩
  · rw [hf_n (by decide), hf_at h0 h1, hf_n (by decide), hf_n (by decide), hf_n (by decide), hf_n (by decide), hf_n (by decide), hf_n (by decide), hf_n (by decide), hf_n (by decide), hf_n (by decide)]
  · rw [hf_at h0 h1, hf_n (by decide), hf_n (by decide), hf_n (by decide), hf_n (by decide), hf_n (by decide), hf_n (by decide), hf_n (by decide), hf_n (by decide), hf_n (by decide), hf_n (by decide)]
theorem st_s {F : Sto} {k : Nat} : up (up (stS F (nb : Int) (k : Int)) 154 (k : Int) (if (k : Int) < (nb : Int) then F 133 (k : Int) else 0)) 155 (k : Int) 0 = stS F (nb : Int) ((k + 1 : Nat) : Int) := by
  funext z j
  unfold up stS
  by_cases a : z = 155 ∧ j = (k : Int)
  · rw [if_pos a, if_neg (show ¬ (z = 154 ∧ 0 ≤ j ∧ j < ((k + 1 : Nat) : Int)) by omega), if_pos (show z = 155 ∧ 0 ≤ j ∧ j < ((k + 1 : Nat) : Int) by omega)]
  · rw [if_neg a]
    by_cases b : z = 154 ∧ j = (k : Int)
    · rw [if_pos b, if_pos (show z = 154 ∧ 0 ≤ j ∧ j < ((k + 1 : Nat) : Int) by omega), b.2]
    · rw [if_neg b]
      by_cases c : z = 154 ∧ 0 ≤ j ∧ j < (k : Int)
      · rw [if_pos c, if_pos (show z = 154 ∧ 0 ≤ j ∧ j < ((k + 1 : Nat) : Int) by omega)]
      · rw [if_neg c, if_neg (show ¬ (z = 154 ∧ 0 ≤ j ∧ j < ((k + 1 : Nat) : Int)) by omega)]
        by_cases e : z = 155 ∧ 0 ≤ j ∧ j < (k : Int)
        · rw [if_pos e, if_pos (show z = 155 ∧ 0 ≤ j ∧ j < ((k + 1 : Nat) : Int) by omega)]
        · rw [if_neg e, if_neg (show ¬ (z = 155 ∧ 0 ≤ j ∧ j < ((k + 1 : Nat) : Int)) by omega)]
theorem st_0P {F : Sto} : stS F (nb : Int) ((0 : Nat) : Int) = F := by
  funext z j
  unfold stS
  rw [if_neg (by omega), if_neg (by omega)]
def r0a (R : Sto) : Sto := up (up (up (up (up (up (up R 144 0 0) 145 0 (R 131 5)) 149 0 0) 150 0 0) 151 0 0) 152 0 0) 153 0 (R 131 2)
def r0b (F : Sto) : Sto := up (up (up F 146 0 0) 147 0 (F 154 0)) 148 0 0
theorem r228 (d : Nat) (h7 : R 131 0 = (nb : Int)) (h8 : nb ≤ 8) : drf xs n (d + 3) 228 [(2, 129)] R (9, 0) (r0b (stS (r0a R) (nb : Int) 8)) := by
  intro C0
  have mr : ∀ (G : Sto) (z : Int), 129 ≤ z → mix C0 G z = G z := fun G z hz => mix_r (by omega)
  have ur : ∀ (G : Sto) (z j v : Int), 129 ≤ z → up (mix C0 G) z j v = mix C0 (up G z j v) := fun G z j v hz => mix_ur (by omega)
  have w80 : w32 (8 * 0) = 0 := rfl
  have st : ∀ (F : Sto) (r k : Nat), F 131 0 = (nb : Int) → k + r = 8 → Rn (d + 1) 227 61 [some (2, 129), some (0, 0), some (0, (k : Int))] [] (Sg xs n (mix C0 (stS F (nb : Int) (k : Int)))) = Rn (d + 1) 227 61 [some (2, 129), some (0, 0), some (0, 8)] [] (Sg xs n (mix C0 (stS F (nb : Int) 8))) := by
    intro F r
    induction r with
    | zero =>
      intro k h0 hk
      have e : k = 8 := by omega
      subst e
      rfl
    | succ r ih =>
      intro k h0 hk
      have s131 : stS F (nb : Int) (k : Int) 131 0 = (nb : Int) := by
        unfold stS
        rw [if_neg (by omega), if_neg (by omega)]
        exact h0
      have s133 : stS F (nb : Int) (k : Int) 133 (k : Int) = F 133 (k : Int) := by
        unfold stS
        rw [if_neg (by omega), if_neg (by omega)]
      have nx := ih (k + 1) h0 (by omega)
      rw [← st_s] at nx
      have i184 := inb_t (show 0 ≤ (k : Int) by omega) (show (k : Int) < 184 by omega)
      have wk : w32 (0 + (k : Int)) = (k : Int) := by rw [Int.zero_add]; exact w32_idP (by omega) (by omega)
      have fin : ∀ v : Int, v = (if (k : Int) < (nb : Int) then F 133 (k : Int) else 0) → Rn (d + 1) 227 97 [some (2, 129), some (0, 0), some (0, (k : Int))] [(0, v), (0, (k : Int)), (2, 154)] (Sg xs n (mix C0 (stS F (nb : Int) (k : Int)))) = Rn (d + 1) 227 61 [some (2, 129), some (0, 0), some (0, 8)] [] (Sg xs n (mix C0 (stS F (nb : Int) 8))) := by
        intro v hv
        rw [h227_97, w80, wk, if_pos i184, if_pos i184, w1 (by omega), ur _ 154 _ _ (by decide), ur _ 155 _ _ (by decide), hv]
        exact nx
      rw [h227_61, if_neg (by omega), mr _ 131 (by decide), s131, w80, wk]
      by_cases q : (k : Int) < (nb : Int)
      · rw [if_neg (fun z => z q), if_pos (inb_t (by omega) (by omega)), mr _ 133 (by decide), s133]
        exact fin _ (by rw [if_pos q])
      · rw [if_pos q]
        exact fin _ (by rw [if_neg q])
  have a131 : r0a R 131 0 = (nb : Int) := by
    unfold r0a
    rw [up_ne (by decide), up_ne (by decide), up_ne (by decide), up_ne (by decide), up_ne (by decide), up_ne (by decide), up_ne (by decide)]
    exact h7
  have s := st (r0a R) 8 0 a131 (by decide)
  rw [st_0P] at s
  have s' : Rn (d + 1) 227 61 [some (2, 129), some (0, 0), some (0, 0)] [] (Sg xs n (mix C0 (r0a R))) = Rn (d + 1) 227 61 [some (2, 129), some (0, 0), some (0, 8)] [] (Sg xs n (mix C0 (stS (r0a R) (nb : Int) 8))) := s
  have i23 : inb 0 23 = true := rfl
  have i184 : inb 0 184 = true := rfl
  have e227 : den (d + 2) 227 [(2, 129), (0, 0)] (Sg xs n (mix C0 R)) = some ((9, 0), Sg xs n (mix C0 (r0b (stS (r0a R) (nb : Int) 8)))) := by
    rw [n227, h227_0]
    simp only [i23, if_true]
    rw [mr R 131 (by decide), ur _ 144 _ _ (by decide), ur _ 145 _ _ (by decide), ur _ 149 _ _ (by decide), ur _ 150 _ _ (by decide), ur _ 151 _ _ (by decide), ur _ 152 _ _ (by decide), ur _ 153 _ _ (by decide)]
    show Rn (d + 1) 227 61 [some (2, 129), some (0, 0), some (0, 0)] [] (Sg xs n (mix C0 (r0a R))) = _
    rw [s', h227_61, if_pos (by decide), n226, h226_0]
    simp only [i23, w80, i184, if_true]
    rw [mr _ 154 (by decide), ur _ 146 _ _ (by decide), ur _ 147 _ _ (by decide), ur _ 148 _ _ (by decide), cK9, pRv, h227_121]
    rfl
  rw [n228, h228_0, e227, cK9, pRv, h228_5]
end S99zg
