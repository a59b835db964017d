/-! Laws: the class goes from knot to knot -/
section S83
variable {xs : Int → Int} {n : Int × Int} {D G : Sto}
/-- the class's loop from knot to knot -/
theorem k42 (d k : Nat) (hk : k ≤ 2) (L : LE1 D k) (hlt : D 138 k < D 139 k) (hnm : ∀ j : Nat, j < 7 → inL (D 53 j)) : ∀ (r i : Nat) (G : Sto) (h : Nat) o5, (D 138 k + (i + r : Nat) : Int) = D 139 k → ofW G D → evR (D 140) (D 141) (D 53) (D 138 k) i = some (stkA (G 45) h) → hgt (D 140) (D 141) (D 138 k) i = some h → G 40 7 = h → (∀ j : Nat, j < h → inL (G 45 j)) → ∃ G', ofW G' D ∧ Rn (d + 4) 42 24 [some (2, 40), some (0, (k : Int)), some (2, 53), some (0, D 138 k + i), none, o5, none, none, none, none, none] [] (Sg xs n G) = some ((1, ovI (lawV D (D 53) k)), Sg xs n G') := by
  obtain ⟨⟨l1, l2⟩, ⟨l3, l4, l5⟩, l6, l7⟩ := L
  have hH := l7 hlt
  intro r
  induction r with
  | zero =>
    intro i G h o5 hi hG hev hht h7 hb
    have ei : i = (D 139 k - D 138 k).toNat := by omega
    rw [← ei] at hH
    rw [hht] at hH
    injection hH with hH
    subst hH
    refine ⟨up G 40 7 ((1 - 1 : Nat) : Int), fun z j h1 h2 => ?_, ?_⟩
    · have : up G 40 7 ((1 - 1 : Nat) : Int) z j = G z j := by
        unfold up
        rw [if_neg h2]
      rw [this]
      exact hG z j h1 h2
    · rw [h42_24, if_pos (inb_t (by omega) (by omega)), hG 44 k (by decide) (by omega), l2, if_pos (by omega), c44 (d + 3) 1 (by omega) (by omega) h7, cK1, pR1, h42_177]
      unfold lawV
      rw [if_pos hlt, ← ei, hev]
      rfl
  | succ r ih =>
    intro i G h o5 hi hG hev hht h7 hb
    have hi64 : D 138 k + i < 64 := by omega
    obtain ⟨p, hp⟩ := hgt_s hH (i + 1) (by omega)
    have hle := hgt_le _ _ hht
    have hlp := hgt_le _ _ hp
    have hst : stH (D 140 (D 138 k + i)) (D 141 (D 138 k + i)) h = some p := by
      have : hgt (D 140) (D 141) (D 138 k) (i + 1) = (hgt (D 140) (D 141) (D 138 k) i).bind (fun h => stH (D 140 (D 138 k + i)) (D 141 (D 138 k + i)) h) := rfl
      rw [hht] at this
      rw [hp] at this
      exact this.symm
    have hes : evR (D 140) (D 141) (D 53) (D 138 k) (i + 1) = evK (D 140 (D 138 k + i)) (D 141 (D 138 k + i)) (D 53) (stkA (G 45) h) := by
      have : evR (D 140) (D 141) (D 53) (D 138 k) (i + 1) = (evR (D 140) (D 141) (D 53) (D 138 k) i).bind (fun st => evK (D 140 (D 138 k + i)) (D 141 (D 138 k + i)) (D 53) st) := rfl
      rw [hev] at this
      exact this
    have kn := l6 (D 138 k + i).toNat (by omega) (by omega)
    rw [Int.toNat_of_nonneg (by omega)] at kn
    -- a value goes on the stack
    have pushes : ∀ (G1 : Sto) (h1 : Nat) (v : Int) (o4 : Option Vv), ofW G1 D → G1 40 7 = h1 → h1 + 1 = p → inL v → (∀ j : Nat, j < h1 → G1 45 j = G 45 j ∧ inL (G 45 j)) → evR (D 140) (D 141) (D 53) (D 138 k) (i + 1) = some (v :: stkA (G 45) h1) → ∃ G', ofW G' D ∧ Rn (d + 4) 42 148 [some (2, 40), some (0, (k : Int)), some (2, 53), some (0, D 138 k + i), o4, some (1, v), none, none, none, none, none] [] (Sg xs n G1) = some ((1, ovI (lawV D (D 53) k)), Sg xs n G') := by
      intro G1 h1 v o4 hG1 h71 hp1 hv hsame hev1
      have hv' := hv
      unfold inL at hv'
      have a45 : ∀ j : Nat, j < h1 → (up (up G1 45 h1 v) 40 7 ((h1 + 1 : Nat) : Int)) 45 j = G 45 j := fun j hj => by
        rw [up_ne (by decide), up_ni (by omega)]
        exact (hsame j hj).1
      have a45' : (up (up G1 45 h1 v) 40 7 ((h1 + 1 : Nat) : Int)) 45 h1 = v := by rw [up_ne (by decide), up_at]
      obtain ⟨G', b1, b2⟩ := ih (i + 1) (up (up G1 45 h1 v) 40 7 ((h1 + 1 : Nat) : Int)) (h1 + 1) (some (1, v)) (by omega) (fun z j x1 x2 => by
        have : up (up G1 45 h1 v) 40 7 ((h1 + 1 : Nat) : Int) z j = G1 z j := by
          unfold up
          rw [if_neg x2, if_neg (fun w => x1 w.1)]
        rw [this]
        exact hG1 z j x1 x2) (by
        rw [hev1]
        show some (v :: stkA (G 45) h1) = some ((up (up G1 45 h1 v) 40 7 ((h1 + 1 : Nat) : Int)) 45 h1 :: stkA ((up (up G1 45 h1 v) 40 7 ((h1 + 1 : Nat) : Int)) 45) h1)
        rw [a45', stk_ex h1 (fun j hj => (a45 j hj).symm)]) (by rw [hp1]; exact hp) up_at (fun j hj => by
        by_cases q : j = h1
        · rw [q, a45']; exact hv
        · rw [a45 j (by omega)]; exact (hsame j (by omega)).2)
      refine ⟨G', b1, ?_⟩
      rw [h42_148]
      simp only [lcZ]
      rw [if_pos (by omega), c43 (d + 3) h1 v (by omega) h71, cK9]
      show Rn (d + 4) 42 167 [some (2, 40), some (0, (k : Int)), some (2, 53), some (0, D 138 k + i), none, some (1, v), none, none, none, none, none] [] (Sg xs n (up (up G1 45 h1 v) 40 7 ((h1 + 1 : Nat) : Int))) = _
      rw [h42_167, show w32 (D 138 k + i + 1) = D 138 k + ((i + 1 : Nat) : Int) by rw [w32_idP (by omega) (by omega)]; omega]
      exact b2
    -- there is no value
    have fails : ∀ (G1 : Sto) (o4 : Option Vv), ofW G1 D → evR (D 140) (D 141) (D 53) (D 138 k) (i + 1) = none → ∃ G', ofW G' D ∧ Rn (d + 4) 42 148 [some (2, 40), some (0, (k : Int)), some (2, 53), some (0, D 138 k + i), o4, some (1, -9223372036854775808), none, none, none, none, none] [] (Sg xs n G1) = some ((1, ovI (lawV D (D 53) k)), Sg xs n G') := by
      intro G1 o4 hG1 hev1
      refine ⟨G1, hG1, ?_⟩
      have hn := evR_n hev1 r
      rw [show i + 1 + r = (D 139 k - D 138 k).toNat by omega] at hn
      rw [h42_148]
      simp only [lcZ]
      rw [if_neg (fun w => w trivial)]
      unfold lawV
      rw [if_pos hlt, hn]
      rfl
    have e41 : G 41 (D 138 k + i) = D 41 (D 138 k + i) := hG 41 _ (by decide) (by omega)
    have e42 : G 42 (D 138 k + i) = D 42 (D 138 k + i) := hG 42 _ (by decide) (by omega)
    rw [h42_24, if_pos (inb_t (by omega) (by omega)), hG 44 k (by decide) (by omega), l2, if_neg (by omega), if_pos (inb_t (by omega) (by omega)), e41, e42]
    obtain ⟨n1, n2, n3, n4, n5⟩ | ⟨n1, n2, n3, n4⟩ | ⟨n1, n2⟩ := kn
    · rw [n2, if_pos (show ¬ (-36 : Int) = 0 by decide), if_pos (show (okK0 (-36) && okK0 (-36)) = true from rfl), if_neg (fun w => w rfl), if_pos (inb_t (by omega) (by omega))]
      rw [n1] at hst hes
      have hp1 : h + 1 = p := by
        have : stH 0 (D 141 (D 138 k + i)) h = some (h + 1) := rfl
        rw [this] at hst
        injection hst
      refine pushes G h _ _ hG h7 hp1 (by constructor <;> omega) (fun j hj => ⟨rfl, hb j hj⟩) ?_
      rw [hes, n3]
      rfl
    · have hk2 : okK (D 41 (D 138 k + i)) = true := by
        unfold okK
        rw [n2]
        simp
        omega
      have hk0 : (okK0 (D 41 (D 138 k + i)) && okK0 (-36)) = true := by
        unfold okK0
        rw [hk2]
        simp
        rfl
      have f2 : kf 2 (D 41 (D 138 k + i)) = 2 ∧ kf 3 (D 41 (D 138 k + i)) = D 141 (D 138 k + i) := by
        have : ∀ q : Fin 7, kf 2 (-13 - ((q : Nat) : Int)) = 2 ∧ kf 3 (-13 - ((q : Nat) : Int)) = ((q : Nat) : Int) := by decide
        have t := this ⟨(D 141 (D 138 k + i)).toNat, by omega⟩
        simp only [Int.toNat_of_nonneg n3] at t
        rw [n2]
        exact t
      rw [if_pos (by omega), if_pos hk0, if_pos (by omega), hk2, if_pos rfl, f2.1, if_neg (fun w => w rfl), if_pos rfl, f2.2, if_pos (inb_t n3 (by omega)), hG 53 _ (by decide) (by omega)]
      rw [n1] at hst hes
      have hp1 : h + 1 = p := by
        have : stH 1 (D 141 (D 138 k + i)) h = some (h + 1) := rfl
        rw [this] at hst
        injection hst
      have hnv := hnm (D 141 (D 138 k + i)).toNat (by omega)
      rw [Int.toNat_of_nonneg n3] at hnv
      refine pushes G h _ _ hG h7 hp1 hnv (fun j hj => ⟨rfl, hb j hj⟩) ?_
      rw [hes]
      rfl
    · rw [n1] at hst hes
      have hkc : -32 ≤ D 41 (D 138 k + i) ∧ D 41 (D 138 k + i) ≤ -20 := by
        unfold sgP at n2
        omega
      have hk2 : okK (D 41 (D 138 k + i)) = true := by
        unfold okK
        simp
        omega
      have hk0 : (okK0 (D 41 (D 138 k + i)) && okK0 (-36)) = true := by
        unfold okK0
        rw [hk2]
        simp
        rfl
      have hk3 : (okK0 (D 41 (D 138 k + i)) && okK0 (-22)) = true := by
        unfold okK0
        rw [hk2]
        simp
        rfl
      have hrole : ¬ kf 2 (D 41 (D 138 k + i)) = 2 := by
        have : ∀ q : Fin 13, ¬ kf 2 (-20 - ((q : Nat) : Int)) = 2 := by decide
        have t := this ⟨(-20 - D 41 (D 138 k + i)).toNat, by omega⟩
        simp only [Int.toNat_of_nonneg (show 0 ≤ -20 - D 41 (D 138 k + i) by omega)] at t
        rw [show -20 - (-20 - D 41 (D 138 k + i)) = D 41 (D 138 k + i) by omega] at t
        exact t
      have hh1 : 1 ≤ h := by
        unfold stH at hst
        rw [if_pos rfl] at hst
        (repeat' split at hst) <;> first | omega | (cases hst)
      have hy := hb (h - 1) (by omega)
      rw [if_pos (by omega), if_pos hk0, if_pos (by omega), if_pos hk2, if_pos hrole, c44 (d + 3) h hh1 (by omega) h7, cK1, pR1, h42_96, if_pos hk3]
      -- the store behind the first value taken off
      have oW1 : ofW (up G 40 7 ((h - 1 : Nat) : Int)) D := fun z j x1 x2 => by
        have : up G 40 7 ((h - 1 : Nat) : Int) z j = G z j := by
          unfold up
          rw [if_neg x2]
        rw [this]
        exact hG z j x1 x2
      have s1 : stkA (G 45) h = G 45 ((h - 1 : Nat) : Int) :: stkA (G 45) (h - 1) := by
        rw [show h = (h - 1) + 1 by omega]
        rfl
      by_cases hnot : D 141 (D 138 k + i) = 260
      · have hkc2 : D 41 (D 138 k + i) = -22 := by
          unfold sgP at n2
          omega
        rw [hnot] at hst hes
        have hp1 : (h - 1) + 1 = p := by
          have : stH 2 260 h = (if 1 ≤ h then some h else none) := rfl
          rw [this, if_pos hh1] at hst
          injection hst
          omega
        rw [hkc2, if_neg (fun w => w rfl), h42_114, if_pos (show okK (-22) = true from rfl), if_pos (show kf 3 (-22) < 5 by decide), c49i (d + 1), cK1, pR1, h42_146]
        refine pushes (up G 40 7 ((h - 1 : Nat) : Int)) (h - 1) _ _ oW1 up_at hp1 (by have := bB_01 (G 45 ((h - 1 : Nat) : Int) = 0); constructor <;> omega) (fun j hj => ⟨up_ne (by decide), hb j (by omega)⟩) ?_
        rw [hes, s1]
        rfl
      · have hkc2 : ¬ D 41 (D 138 k + i) = -22 := by
          unfold sgP at n2
          omega
        have hh2 : 2 ≤ h ∧ (h - 1 - 1) + 1 = p := by
          unfold stH at hst
          rw [if_pos rfl, if_neg hnot] at hst
          split at hst
          · next w => injection hst with hst; omega
          · cases hst
        have hx := hb (h - 1 - 1) (by omega)
        have hx2 : inL (G 45 ((h - 1 - 1 : Nat) : Int)) := hb (h - 1 - 1) (by omega)
        have g7 : (up G 40 7 ((h - 1 : Nat) : Int)) 40 7 = ((h - 1 : Nat) : Int) := up_at
        have s2 : stkA (G 45) (h - 1) = G 45 ((h - 1 - 1 : Nat) : Int) :: stkA (G 45) (h - 1 - 1) := by
          rw [show h - 1 = (h - 1 - 1) + 1 by omega]
          rfl
        have oW2 : ofW (up (up G 40 7 ((h - 1 : Nat) : Int)) 40 7 ((h - 1 - 1 : Nat) : Int)) D := fun z j x1 x2 => by
          have : up (up G 40 7 ((h - 1 : Nat) : Int)) 40 7 ((h - 1 - 1 : Nat) : Int) z j = G z j := by
            unfold up
            rw [if_neg x2, if_neg x2]
          rw [this]
          exact hG z j x1 x2
        have hes2 : evR (D 140) (D 141) (D 53) (D 138 k) (i + 1) = (opV (D 141 (D 138 k + i)) (G 45 ((h - 1 - 1 : Nat) : Int)) (G 45 ((h - 1 : Nat) : Int))).map (fun v => v :: stkA (G 45) (h - 1 - 1)) := by
          rw [hes, s1, s2]
          unfold evK
          rw [if_neg (by decide), if_neg (by decide), if_neg hnot]
        -- what the sign makes of both
        have ends : ∀ (o4 : Option Vv), ∃ G', ofW G' D ∧ Rn (d + 4) 42 148 [some (2, 40), some (0, (k : Int)), some (2, 53), some (0, D 138 k + i), o4, some (1, ovI (opV (D 141 (D 138 k + i)) (G 45 ((h - 1 - 1 : Nat) : Int)) (G 45 ((h - 1 : Nat) : Int)))), none, none, none, none, none] [] (Sg xs n (up (up G 40 7 ((h - 1 : Nat) : Int)) 40 7 ((h - 1 - 1 : Nat) : Int))) = some ((1, ovI (lawV D (D 53) k)), Sg xs n G') := by
          intro o4
          cases ho : opV (D 141 (D 138 k + i)) (G 45 ((h - 1 - 1 : Nat) : Int)) (G 45 ((h - 1 : Nat) : Int)) with
          | none =>
            rw [ho] at hes2
            exact fails _ o4 oW2 hes2
          | some v =>
            rw [ho] at hes2
            exact pushes _ (h - 1 - 1) v o4 oW2 up_at hh2.2 (op_l hx hy ho) (fun j hj => ⟨by rw [up_ne (by decide), up_ne (by decide)], hb j (by omega)⟩) hes2
        rw [if_pos hkc2, c44 (d + 3) (h - 1) (by omega) (by omega) g7, cK1, pR1, show (up G 40 7 ((h - 1 : Nat) : Int)) 45 ((h - 1 - 1 : Nat) : Int) = G 45 ((h - 1 - 1 : Nat) : Int) from up_ne (by decide), c42s d (k : Int) (D 138 k + i) _ _ _ _ n2 hnot hx2 hy]
        exact ends none
end S83
