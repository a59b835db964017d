/-! Laws: the reference works a sum out -/
section S84
variable {xs : Int → Int} {n : Int × Int} {D G : Sto}
theorem ofV_w {h : Nat} {v : Int} : ofV (wkS D h v) D := fun z j h1 h2 => by
  unfold wkS up
  rw [if_neg (fun w => h1 w.1), if_neg h2]
theorem ofV_u {v : Int} : ofV (up D 129 29 v) D := fun z j h1 h2 => by
  unfold up
  rw [if_neg h2]
/-- what a sign makes of both, in the reference -/
theorem c223s (d h : Nat) (kc kv x y : Int) (n2 : sgP kc kv) (hnot : ¬ kv = 260) (hh : 2 ≤ h) (h64 : h ≤ 64) (hD : D 129 29 = h) (hx : D 143 ((h - 2 : Nat) : Int) = x) (hy : D 143 ((h - 1 : Nat) : Int) = y) (lx : inL x) (ly : inL y) : (opV kv x y = none ∧ ∃ G', ofV G' D ∧ den (d + 3) 223 [(2, 129), (0, kv)] (Sg xs n D) = some ((0, 0), Sg xs n G')) ∨ (∃ v, opV kv x y = some v ∧ den (d + 3) 223 [(2, 129), (0, kv)] (Sg xs n D) = some ((0, 1), Sg xs n (wkS D h v))) := by
  unfold sgP at n2
  obtain ⟨rfl, rfl⟩ | ⟨rfl, rfl⟩ | ⟨rfl, rfl⟩ | ⟨rfl, rfl⟩ | ⟨rfl, rfl⟩ | ⟨rfl, rfl⟩ | ⟨rfl, rfl⟩ | ⟨rfl, rfl⟩ | ⟨rfl, rfl⟩ | ⟨rfl, rfl⟩ | ⟨rfl, rfl⟩ | ⟨rfl, rfl⟩ | ⟨rfl, rfl⟩ := n2
  · exact Or.inr ⟨_, rfl, c223k d h x y hh h64 hD hx hy⟩
  · exact Or.inr ⟨_, rfl, c223j d h x y hh h64 hD hx hy⟩
  · exact absurd rfl hnot
  · exact Or.inr ⟨_, rfl, c223a d h x y hh h64 hD hx hy⟩
  · exact Or.inr ⟨_, rfl, c223b d h x y hh h64 hD hx hy⟩
  · exact Or.inr ⟨_, rfl, c223c d h x y hh h64 hD hx hy⟩
  · exact Or.inr ⟨_, rfl, c223e d h x y hh h64 hD hx hy⟩
  · exact Or.inr ⟨_, rfl, c223f d h x y hh h64 hD hx hy⟩
  · exact Or.inr ⟨_, rfl, c223g d h x y hh h64 hD hx hy⟩
  · have e := c223l (xs := xs) (n := n) d h x y hh h64 hD hx hy lx ly
    by_cases q : inL (x + y)
    · rw [bB_t q] at e
      exact Or.inr ⟨_, bnd_t q, e⟩
    · rw [bB_f q] at e
      exact Or.inl ⟨bnd_f q, _, ofV_w, e⟩
  · have e := c223m (xs := xs) (n := n) d h x y hh h64 hD hx hy lx ly
    by_cases q : inL (x - y)
    · rw [bB_t q] at e
      exact Or.inr ⟨_, bnd_t q, e⟩
    · rw [bB_f q] at e
      exact Or.inl ⟨bnd_f q, _, ofV_w, e⟩
  · obtain ⟨v, hv, e⟩ := c223n (xs := xs) (n := n) d h x y hh h64 hD hx hy lx ly
    by_cases q : inL (x * y)
    · rw [bB_t q, if_pos q, hv q] at e
      exact Or.inr ⟨_, bnd_t q, e⟩
    · rw [bB_f q, if_neg q] at e
      exact Or.inl ⟨bnd_f q, _, ofV_u, e⟩
  · have e := c223o (xs := xs) (n := n) d h x y hh h64 hD hx hy lx ly
    by_cases q : y = 0
    · rw [if_pos q] at e
      refine Or.inl ⟨?_, _, ofV_u, e⟩
      show (if y = 0 then none else some (x.tdiv y)) = none
      rw [if_pos q]
    · rw [if_neg q] at e
      refine Or.inr ⟨x.tdiv y, ?_, e⟩
      show (if y = 0 then none else some (x.tdiv y)) = some (x.tdiv y)
      rw [if_neg q]
theorem k224 (d k : Nat) (hk : k ≤ 2) (L : LE1 D k) (hlt : D 138 k < D 139 k) (hnm : ∀ j : Nat, j < 7 → inL (D 142 j)) : ∀ (r i : Nat) (G : Sto) (h : Nat), (D 138 k + (i + r : Nat) : Int) = D 139 k → ofV G D → evR (D 140) (D 141) (D 142) (D 138 k) i = some (stkA (G 143) h) → hgt (D 140) (D 141) (D 138 k) i = some h → G 129 29 = h → (∀ j : Nat, j < h → inL (G 143 j)) → ∃ G', ofV G' D ∧ ((lawV D (D 142) k = none ∧ Rn (d + 3) 224 12 [some (2, 129), some (0, (k : Int)), some (0, D 138 k + i)] [] (Sg xs n G) = some ((0, 0), Sg xs n G')) ∨ (lawV D (D 142) k = some (G' 143 0) ∧ inL (G' 143 0) ∧ Rn (d + 3) 224 12 [some (2, 129), some (0, (k : Int)), some (0, D 138 k + i)] [] (Sg xs n G) = some ((0, 1), Sg xs n G'))) := by
  obtain ⟨⟨l1, l2⟩, ⟨l3, l4, l5⟩, l6, l7⟩ := L
  have hH := l7 hlt
  intro r
  induction r with
  | zero =>
    intro i G h hi hG hev hht h7 hb
    have ei : i = (D 139 k - D 138 k).toNat := by omega
    rw [← ei] at hH
    rw [hht] at hH
    injection hH with hH
    subst hH
    refine ⟨G, hG, Or.inr ⟨?_, hb 0 (by omega), ?_⟩⟩
    · unfold lawV
      rw [if_pos hlt, ← ei, hev]
      rfl
    · rw [h224_12, if_pos (inb_t (by omega) (by omega)), hG 139 k (by decide) (by omega), if_pos (by omega)]
  | succ r ih =>
    intro i G h hi hG hev hht h7 hb
    obtain ⟨p, hp⟩ := hgt_s hH (i + 1) (by omega)
    have hle := hgt_le _ _ hht
    have hlp := hgt_le _ _ hp
    have hst : stH (D 140 (D 138 k + i)) (D 141 (D 138 k + i)) h = some p := by
      have : hgt (D 140) (D 141) (D 138 k) (i + 1) = (hgt (D 140) (D 141) (D 138 k) i).bind (fun h => stH (D 140 (D 138 k + i)) (D 141 (D 138 k + i)) h) := rfl
      rw [hht] at this
      rw [hp] at this
      exact this.symm
    have hes : evR (D 140) (D 141) (D 142) (D 138 k) (i + 1) = evK (D 140 (D 138 k + i)) (D 141 (D 138 k + i)) (D 142) (stkA (G 143) h) := by
      have : evR (D 140) (D 141) (D 142) (D 138 k) (i + 1) = (evR (D 140) (D 141) (D 142) (D 138 k) i).bind (fun st => evK (D 140 (D 138 k + i)) (D 141 (D 138 k + i)) (D 142) st) := rfl
      rw [hev] at this
      exact this
    have kn := l6 (D 138 k + i).toNat (by omega) (by omega)
    rw [Int.toNat_of_nonneg (by omega)] at kn
    have ew : w32 (D 138 k + i + 1) = D 138 k + ((i + 1 : Nat) : Int) := by rw [w32_idP (by omega) (by omega)]; omega
    have e140 : G 140 (D 138 k + i) = D 140 (D 138 k + i) := hG 140 _ (by decide) (by omega)
    have e141 : G 141 (D 138 k + i) = D 141 (D 138 k + i) := hG 141 _ (by decide) (by omega)
    -- a value goes on the row
    have pushes : ∀ v, h + 1 = p → inL v → evR (D 140) (D 141) (D 142) (D 138 k) (i + 1) = some (v :: stkA (G 143) h) → ∃ G', ofV G' D ∧ ((lawV D (D 142) k = none ∧ Rn (d + 3) 224 85 [some (2, 129), some (0, (k : Int)), some (0, D 138 k + i)] [(1, v), (0, (h : Int)), (2, 143)] (Sg xs n G) = some ((0, 0), Sg xs n G')) ∨ (lawV D (D 142) k = some (G' 143 0) ∧ inL (G' 143 0) ∧ Rn (d + 3) 224 85 [some (2, 129), some (0, (k : Int)), some (0, D 138 k + i)] [(1, v), (0, (h : Int)), (2, 143)] (Sg xs n G) = some ((0, 1), Sg xs n G'))) := by
      intro v hp1 hv hev1
      have a1 : ∀ j : Nat, j < h → (up (up G 143 h v) 129 29 ((h + 1 : Nat) : Int)) 143 j = G 143 j := fun j hj => by rw [up_ne (by decide), up_ni (by omega)]
      have a2 : (up (up G 143 h v) 129 29 ((h + 1 : Nat) : Int)) 143 h = v := by rw [up_ne (by decide), up_at]
      have := ih (i + 1) (up (up G 143 h v) 129 29 ((h + 1 : Nat) : Int)) (h + 1) (by omega) (fun z j x1 x2 => by
        have : up (up G 143 h v) 129 29 ((h + 1 : Nat) : Int) z j = G z j := by
          unfold up
          rw [if_neg x2, if_neg (fun w => x1 w.1)]
        rw [this]
        exact hG z j x1 x2) (by
        rw [hev1]
        show some (v :: stkA (G 143) h) = some ((up (up G 143 h v) 129 29 ((h + 1 : Nat) : Int)) 143 h :: stkA ((up (up G 143 h v) 129 29 ((h + 1 : Nat) : Int)) 143) h)
        rw [a2, stk_ex h (fun j hj => (a1 j hj).symm)]) (by rw [hp1]; exact hp) up_at (fun j hj => by
        by_cases q : j = h
        · rw [q, a2]; exact hv
        · rw [a1 j (by omega)]; exact hb j (by omega))
      rw [h224_85, if_pos (inb_t (by omega) (by omega)), h7, w1 (by omega), h224_96, ew]
      exact this
    rw [h224_12, if_pos (inb_t (by omega) (by omega)), hG 139 k (by decide) (by omega), if_neg (by omega), inb_t (show (0 : Int) ≤ D 138 k + i by omega) (show D 138 k + i < 128 by omega), if_pos rfl, if_pos rfl, if_pos rfl, if_pos rfl, if_pos rfl, e140, e141, h7]
    obtain ⟨n1, n2, n3, n4, n5⟩ | ⟨n1, n2, n3, n4⟩ | ⟨n1, n2⟩ := kn
    · rw [n1] at hst hes
      have hp1 : h + 1 = p := by
        have : stH 0 (D 141 (D 138 k + i)) h = some (h + 1) := rfl
        rw [this] at hst
        injection hst
      rw [n1, if_pos (by decide), if_neg (fun w => w rfl)]
      refine pushes _ hp1 (by constructor <;> omega) ?_
      rw [hes]
      rfl
    · rw [n1] at hst hes
      have hp1 : h + 1 = p := by
        have : stH 1 (D 141 (D 138 k + i)) h = some (h + 1) := rfl
        rw [this] at hst
        injection hst
      have hnv := hnm (D 141 (D 138 k + i)).toNat (by omega)
      rw [Int.toNat_of_nonneg n3] at hnv
      rw [n1, if_pos (by decide), if_pos (by decide), if_pos (inb_t n3 (by omega)), hG 142 _ (by decide) (by omega)]
      refine pushes _ hp1 hnv ?_
      rw [hes]
      rfl
    · rw [n1] at hst hes
      rw [n1, if_neg (fun w => w rfl)]
      have hh1 : 1 ≤ h := by
        unfold stH at hst
        rw [if_pos rfl] at hst
        (repeat' split at hst) <;> first | omega | (cases hst)
      have s1 : stkA (G 143) h = G 143 ((h - 1 : Nat) : Int) :: stkA (G 143) (h - 1) := by
        rw [show h = (h - 1) + 1 by omega]
        rfl
      by_cases hnot : D 141 (D 138 k + i) = 260
      · rw [hnot] at hst hes
        have hp1 : h = p := by
          have : stH 2 260 h = (if 1 ≤ h then some h else none) := rfl
          rw [this, if_pos hh1] at hst
          injection hst
        have a1 : ∀ j : Nat, j < h - 1 → (up G 143 ((h - 1 : Nat) : Int) (bB (G 143 ((h - 1 : Nat) : Int) = 0))) 143 j = G 143 j := fun j hj => up_ni (by omega)
        have a2 : (up G 143 ((h - 1 : Nat) : Int) (bB (G 143 ((h - 1 : Nat) : Int) = 0))) 143 ((h - 1 : Nat) : Int) = bB (G 143 ((h - 1 : Nat) : Int) = 0) := up_at
        have := ih (i + 1) (up G 143 ((h - 1 : Nat) : Int) (bB (G 143 ((h - 1 : Nat) : Int) = 0))) h (by omega) (fun z j x1 x2 => by rw [up_ne x1]; exact hG z j x1 x2) (by
          have s2 : stkA ((up G 143 ((h - 1 : Nat) : Int) (bB (G 143 ((h - 1 : Nat) : Int) = 0))) 143) h = (up G 143 ((h - 1 : Nat) : Int) (bB (G 143 ((h - 1 : Nat) : Int) = 0))) 143 ((h - 1 : Nat) : Int) :: stkA ((up G 143 ((h - 1 : Nat) : Int) (bB (G 143 ((h - 1 : Nat) : Int) = 0))) 143) (h - 1) := by
            rw [show h = (h - 1) + 1 by omega]
            rfl
          rw [hes, s1, s2, a2, stk_ex (h - 1) a1]
          rfl) (by rw [hp1]; exact hp) (by rw [up_ne (by decide)]; exact h7) (fun j hj => by
          by_cases q : j = h - 1
          · rw [q, a2]
            have := bB_01 (G 143 ((h - 1 : Nat) : Int) = 0)
            constructor <;> omega
          · rw [a1 j (by omega)]; exact hb j (by omega))
        rw [hnot, c223i d h _ hh1 (by omega) h7 rfl, cK0, pR0, h224_42, if_pos (by decide), h224_96, ew]
        exact this
      · have hh2 : 2 ≤ h ∧ (h - 2) + 1 = p := by
          unfold stH at hst
          rw [if_pos rfl, if_neg hnot] at hst
          split at hst
          · next w => injection hst with hst; omega
          · cases hst
        have s2 : stkA (G 143) (h - 1) = G 143 ((h - 2 : Nat) : Int) :: stkA (G 143) (h - 2) := by
          rw [show h - 1 = (h - 2) + 1 by omega]
          rfl
        have hes2 : evR (D 140) (D 141) (D 142) (D 138 k) (i + 1) = (opV (D 141 (D 138 k + i)) (G 143 ((h - 2 : Nat) : Int)) (G 143 ((h - 1 : Nat) : Int))).map (fun v => v :: stkA (G 143) (h - 2)) := by
          rw [hes, s1, s2]
          unfold evK
          rw [if_neg (by decide), if_neg (by decide), if_neg hnot]
        obtain ⟨o1, G1, o2, o3⟩ | ⟨v, o1, o2⟩ := c223s (xs := xs) (n := n) (D := G) d h _ _ _ _ n2 hnot hh2.1 (by omega) h7 rfl rfl (hb (h - 2) (by omega)) (hb (h - 1) (by omega))
        · rw [o1] at hes2
          have hn := evR_n hes2 r
          rw [show i + 1 + r = (D 139 k - D 138 k).toNat by omega] at hn
          refine ⟨G1, fun z j x1 x2 => (o2 z j x1 x2).trans (hG z j x1 x2), Or.inl ⟨?_, ?_⟩⟩
          · unfold lawV
            rw [if_pos hlt, hn]
            rfl
          · rw [o3, cK0, pR0, h224_42, if_neg (fun w => w rfl)]
        · rw [o1] at hes2
          have hv := op_l (hb (h - 2) (by omega)) (hb (h - 1) (by omega)) o1
          have a1 : ∀ j : Nat, j < h - 2 → (wkS G h v) 143 j = G 143 j := fun j hj => by
            unfold wkS
            rw [up_ni (by omega), up_ne (by decide)]
          have a2 : (wkS G h v) 143 ((h - 2 : Nat) : Int) = v := up_at
          have := ih (i + 1) (wkS G h v) (h - 1) (by omega) (fun z j x1 x2 => (ofV_w z j x1 x2).trans (hG z j x1 x2)) (by
            have s3 : stkA ((wkS G h v) 143) (h - 1) = (wkS G h v) 143 ((h - 2 : Nat) : Int) :: stkA ((wkS G h v) 143) (h - 2) := by
              rw [show h - 1 = (h - 2) + 1 by omega]
              rfl
            rw [hes2, s3, a2, stk_ex (h - 2) a1]
            rfl) (by rw [show h - 1 = p by omega]; exact hp) (by unfold wkS; rw [up_ne (by decide), up_at]) (fun j hj => by
            by_cases q : j = h - 2
            · rw [q, a2]; exact hv
            · rw [a1 j (by omega)]; exact hb j (by omega))
          rw [o2, cK0, pR0, h224_42, if_pos (by decide), h224_96, ew]
          exact this
theorem c224 (d k : Nat) (hk : k ≤ 2) (L : LE1 D k) (hlt : D 138 k < D 139 k) (hnm : ∀ j : Nat, j < 7 → inL (D 142 j)) : ∃ G', ofV G' D ∧ ((lawV D (D 142) k = none ∧ den (d + 4) 224 [(2, 129), (0, (k : Int))] (Sg xs n D) = some ((0, 0), Sg xs n G')) ∨ (lawV D (D 142) k = some (G' 143 0) ∧ inL (G' 143 0) ∧ den (d + 4) 224 [(2, 129), (0, (k : Int))] (Sg xs n D) = some ((0, 1), Sg xs n G'))) := by
  have e : (D 138 k + (0 + (D 139 k - D 138 k).toNat : Nat) : Int) = D 139 k := by
    have := L.2.1
    omega
  have := k224 (xs := xs) (n := n) d k hk L hlt hnm (D 139 k - D 138 k).toNat 0 (up D 129 29 0) 0 e ofV_u rfl rfl up_at (fun j hj => by omega)
  rw [n224, h224_0, if_pos (inb_t (by omega) (by omega))]
  rw [show (D 138 k + ((0 : Nat) : Int)) = D 138 k by omega] at this
  exact this
theorem c225 (d k : Nat) (hk : k ≤ 2) : den (d + 1) 225 [(2, 129), (0, (k : Int))] (Sg xs n D) = some ((0, bB (D 138 k < D 139 k)), Sg xs n D) := by
  have hr : ret01 225 0 = true ∧ ret01 225 1 = true := ⟨rfl, rfl⟩
  rw [n225, h225_0, if_pos (inb_t (by omega) (by omega)), if_pos (inb_t (by omega) (by omega))]
  simp only [h225_20, hr, if_true]
  unfold bB
  (repeat' split) <;> first | rfl | (exfalso; omega)
theorem c38 (d : Nat) (k : Int) : den (d + 2) 38 [(2, 40), (0, k)] (Sg xs n D) = some ((0, bB ((0 ≤ k ∧ k ≤ 2) ∧ D 43 k < D 44 k)), Sg xs n D) := by
  have hr : ret01 38 0 = true ∧ ret01 38 1 = true := ⟨rfl, rfl⟩
  rw [n38b, h38b_0, c179, cK0, pR0, h38b_6, bB_if, h38b_28]
  simp only [h38b_29, hr, if_true]
  by_cases h : 0 ≤ k ∧ k ≤ 2
  · rw [if_pos h, inb_t (show 0 ≤ k by omega) (show k < 3 by omega), if_pos rfl, if_pos rfl]
    by_cases q : D 43 k < D 44 k
    · rw [if_neg (fun w => w q), bB_t ⟨h, q⟩]
    · rw [if_pos q, bB_f (fun w => q w.2)]
  · rw [if_neg h, bB_f (fun w => h w.1)]
theorem c42 (d : Nat) (k : Int) (L : LE D) (hnm : ∀ j : Nat, j < 7 → inL (D 53 j)) : ∃ G', ofW G' D ∧ den (d + 5) 42 [(2, 40), (0, k), (2, 53)] (Sg xs n D) = some ((1, ovI (if 0 ≤ k ∧ k ≤ 2 then lawV D (D 53) k else none)), Sg xs n G') := by
  rw [n42, h42_0, c38, cK0, pR0, h42_5]
  by_cases h : 0 ≤ k ∧ k ≤ 2
  · have L1 : LE1 D k.toNat := by
      have : k.toNat = 0 ∨ k.toNat = 1 ∨ k.toNat = 2 := by omega
      obtain w | w | w := this
      · rw [w]; exact L.1
      · rw [w]; exact L.2.1
      · rw [w]; exact L.2.2
    have ek : (k.toNat : Int) = k := Int.toNat_of_nonneg h.1
    rw [if_pos h]
    obtain ⟨⟨l1, l2⟩, ⟨l3, l4, l5⟩, l6, l7⟩ := L1
    rw [ek] at l1 l2 l3 l4 l5
    by_cases q : D 138 k < D 139 k
    · rw [bB_t ⟨h, by rw [l1, l2]; exact q⟩, if_pos (by decide), if_pos (inb_t h.1 (by omega)), l1]
      have e : (D 138 k.toNat + (0 + (D 139 k - D 138 k).toNat : Nat) : Int) = D 139 k.toNat := by
        rw [ek]
        omega
      have := k42 (xs := xs) (n := n) d k.toNat (by omega) (by
        have : k.toNat = 0 ∨ k.toNat = 1 ∨ k.toNat = 2 := by omega
        obtain w | w | w := this
        · rw [w]; exact L.1
        · rw [w]; exact L.2.1
        · rw [w]; exact L.2.2) (by rw [ek]; exact q) hnm (D 139 k - D 138 k).toNat 0 (up D 40 7 0) 0 none e (fun z j x1 x2 => by
          unfold up
          rw [if_neg x2]) rfl rfl up_at (fun j hj => by omega)
      rw [ek, show (D 138 k + ((0 : Nat) : Int)) = D 138 k by omega] at this
      exact this
    · refine ⟨D, fun _ _ _ _ => rfl, ?_⟩
      rw [bB_f (fun w => q (by rw [← l1, ← l2]; exact w.2)), if_neg (by decide)]
      unfold lawV
      rw [if_neg q]
      rfl
  · refine ⟨D, fun _ _ _ _ => rfl, ?_⟩
    rw [bB_f (fun w => h w.1), if_neg (by decide), if_neg h]
    rfl
end S84
