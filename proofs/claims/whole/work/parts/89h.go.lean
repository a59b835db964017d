/-! Twins: go -/
section S89h
variable {xs : Int → Int} {n : Int × Int} {F D E G : Sto} {nb m : Nat} {sg : Int → Int} {w tb bn s : Int} {p : PSt}
theorem simH_z (h : simH E D) (z : Int) (hz : ¬ scz z) (h1 : ¬ (46 ≤ z ∧ z ≤ 48)) (h2 : ¬ (64 ≤ z ∧ z ≤ 128)) : E z = D z := funext (fun j => h z j (ns z hz j) (by unfold scz at hz; unfold scH; omega))
theorem simH_bs (K : RelK D nb m) (h : simH E D) : rbs E m = rbs D m := by
  have h45 := (RelK_G K).2.2.2.2.1
  funext b
  unfold rbs
  rw [h 129 45 (by unfold scr; omega) (by unfold scH; omega), h45, if_pos rfl, if_pos rfl, simH_z h 135 (by unfold scz; omega) (by omega) (by omega), simH_z h 136 (by unfold scz; omega) (by omega) (by omega), simH_z h 137 (by unfold scz; omega) (by omega) (by omega)]
theorem sP_H (K : RelK D nb m) (h : simH E D) : sP E D m := by
  have f := fun z a b c => simH_z h z a b c
  refine ⟨f 131 (by unfold scz; omega) (by omega) (by omega), f 134 (by unfold scz; omega) (by omega) (by omega), simH_bs K h, f 136 (by unfold scz; omega) (by omega) (by omega), f 137 (by unfold scz; omega) (by omega) (by omega), ?_⟩
  funext nm k
  exact lawV_D ⟨f 138 (by unfold scz; omega) (by omega) (by omega), f 139 (by unfold scz; omega) (by omega) (by omega), f 140 (by unfold scz; omega) (by omega) (by omega), f 141 (by unfold scz; omega) (by omega) (by omega)⟩
theorem EV_H (K : RelK D nb m) (h : simH E D) (V : EV D nb m sg) : EV E nb m sg := by
  have f := fun z a b c => simH_z h z a b c
  obtain ⟨⟨v1, v2⟩, v3, v4, v5, v6⟩ := V
  refine ⟨⟨?_, LE_D (fun z hz => f z (by unfold scz; omega) (by omega) (by omega)) v2⟩, v3, ?_, ?_, ?_⟩
  · unfold RG
    rw [f 131 (by unfold scz; omega) (by omega) (by omega), f 136 (by unfold scz; omega) (by omega) (by omega), f 137 (by unfold scz; omega) (by omega) (by omega)]
    exact v1
  · rw [simH_bs K h, f 137 (by unfold scz; omega) (by omega) (by omega)]
    exact v4
  · rw [f 136 (by unfold scz; omega) (by omega) (by omega), f 134 (by unfold scz; omega) (by omega) (by omega)]
    exact v5
  · rw [f 131 (by unfold scz; omega) (by omega) (by omega)]
    exact v6
theorem CE_H (K : RelK D nb m) (X : RelX D nb m) (h : simH E D) (h47 : ∀ b : Nat, b < nb → E 47 b = D 47 b) : CE E nb m (D 47) 46 := by
  have f := fun z a b c => simH_z h z a b c
  obtain ⟨⟨g1, g2, g3, g4⟩, hB, c3, c4, c5, c6⟩ := CE_of K X
  have c6' := EV_H K h c6
  refine ⟨⟨?_, c6'.1.1, ?_, ?_⟩, ?_, ?_, ?_, ?_, c6'⟩
  · unfold EG
    rw [f 30 (by unfold scz; omega) (by omega) (by omega), f 31 (by unfold scz; omega) (by omega) (by omega), f 32 (by unfold scz; omega) (by omega) (by omega)]
    exact g1
  · rw [f 31 (by unfold scz; omega) (by omega) (by omega), f 32 (by unfold scz; omega) (by omega) (by omega), f 136 (by unfold scz; omega) (by omega) (by omega), f 137 (by unfold scz; omega) (by omega) (by omega)]
    exact g3
  · rw [f 34 (by unfold scz; omega) (by omega) (by omega), f 137 (by unfold scz; omega) (by omega) (by omega)]
    exact g4
  · unfold BE
    rw [simH_bs K h, f 36 (by unfold scz; omega) (by omega) (by omega), f 137 (by unfold scz; omega) (by omega) (by omega)]
    exact hB
  · unfold G2
    rw [f 135 (by unfold scz; omega) (by omega) (by omega), f 33 (by unfold scz; omega) (by omega) (by omega), f 37 (by unfold scz; omega) (by omega) (by omega), f 35 (by unfold scz; omega) (by omega) (by omega), f 136 (by unfold scz; omega) (by omega) (by omega), f 137 (by unfold scz; omega) (by omega) (by omega)]
    exact c3
  · intro b hb
    rw [f 29 (by unfold scz; omega) (by omega) (by omega), f 134 (by unfold scz; omega) (by omega) (by omega)]
    exact ⟨(c4 b hb).1, h47 b hb⟩
  · rw [f 26 (by unfold scz; omega) (by omega) (by omega), f 131 (by unfold scz; omega) (by omega) (by omega)]
    exact c5
theorem RV_H (K : RelK D nb m) (X : RelX D nb m) (h : simH E D) (h154 : ∀ b : Nat, b < nb → E 154 (8 * s + b) = D 47 b) (hs : 0 ≤ s ∧ s < 23) : RV E nb m (D 47) s 0 0 := by
  obtain ⟨g, hB, hS, h46, h45, hRB⟩ := RelK_G K
  refine ⟨⟨?_, EV_H K h (EV_of K X)⟩, ⟨by rw [h 129 46 (by unfold scr; omega) (by unfold scH; omega)]; exact h46, h154⟩, ?_, fun z => absurd z (by decide), hs⟩
  · unfold RB
    rw [simH_bs K h, simH_z h 137 (by unfold scz; omega) (by omega) (by omega), simH_z h 135 (by unfold scz; omega) (by omega) (by omega)]
    exact hRB
  · rw [h 129 48 (by unfold scr; omega) (by unfold scH; omega)]
    exact X.2.2.2.2.2.2.1
theorem HE_c (h8 : nb ≤ 8) (H : HE D nb) (h64 : F 64 4 = D 64 4 ∧ F 64 3 = D 64 3) (hu : (F 64 0 = D 64 0 ∧ F 129 43 = D 129 43) ∨ (F 64 0 = 0 ∧ F 129 43 = 0)) (h42 : F 129 42 = D 129 42) (hc : ∀ z : Int, 66 ≤ z → z ≤ 128 → F z = D z) (hr : ∀ z s : Int, 144 ≤ z → z ≤ 153 → 2 ≤ s → F z s = D z s) (hv : ∀ z j : Int, z = 154 ∨ z = 155 → 16 ≤ j → F z j = D z j) : HE F nb := by
  obtain ⟨u, t, ⟨u1', u2, u3, u4, u5⟩, hh, i1, i2, i3⟩ := H
  have img : F 129 42 = 1 → RunE F nb 66 2 := fun q => by
    rw [h42] at q
    exact RunE_c (fun z j a b => by rw [hc z (by omega) (by omega)]) (fun z a b => hr z 2 a b (by omega)) (fun z b a c e => hv z _ a (by omega)) h8 (i3 q)
  have e3 : F 64 3 = F 129 42 := by rw [h64.2, h42]; exact i1
  have e2 : F 129 42 = 0 ∨ F 129 42 = 1 := by rw [h42]; exact i2
  obtain ⟨a1, a2⟩ | ⟨a1, a2⟩ := hu
  · refine ⟨u, t, ⟨u1', u2, a1.trans u3, a2.trans u4, h64.1.trans u5⟩, fun k hk => ?_, e3, e2, img⟩
    exact RunE_c (fun z j a b => by rw [hc z (by omega) (by omega)]) (fun z a b => hr z _ a b (by omega)) (fun z b a c e => hv z _ a (by omega)) h8 (hh k hk)
  · exact ⟨0, t, ⟨by omega, u2, a1, a2, h64.1.trans u5⟩, fun k hk => absurd hk (by omega), e3, e2, img⟩
theorem k263 (d : Nat) (V : RV D nb m sg 0 w tb) (q : Nat) (hq : q < 1000) : ∀ (r i : Nat) (G : Sto) (p : PSt), i + r = q → ofQ 0 G D → RR G 0 nb w p → PBd nb p → p.1 3 + r ≤ 1000000 → 0 ≤ p.1 3 → ∃ G', ofQ 0 G' D ∧ RR G' 0 nb w (itP D nb m sg w tb 1 r p) ∧ Rn (d + 7) 263 43 [some (2, 129), some (0, (q : Int)), some (0, (i : Int))] [] (Sg xs n G) = some ((0, G' 144 0), Sg xs n G') := by
  have EVD := V.1.2
  intro r
  induction r with
  | zero =>
    intro i G p hi h hp _ _ _
    refine ⟨G, h, hp, ?_⟩
    rw [h263_43, if_pos (by omega)]
  | succ r ih =>
    intro i G p hi h hp B hs hs0
    obtain ⟨G1, a1, a2, a3⟩ := k252 (xs := xs) (n := n) (bn := 1) d h V hp (fun z => PBd_I B EVD.1.1.2.1 z (by omega))
    have s3 := stP_3 (D := D) (nb := nb) (m := m) (sg := sg) (w := w) (tb := tb) (bn := 1) p (by omega)
    obtain ⟨G', b1, b2, b3⟩ := ih (i + 1) G1 _ (by omega) a1 a2 (stP_B EVD B (by omega)) (by omega) (by omega)
    refine ⟨G', b1, b2, ?_⟩
    rw [h263_43, if_neg (by omega), a3, cK9]
    show Rn (d + 7) 263 54 [some (2, 129), some (0, (q : Int)), some (0, (i : Int))] [] (Sg xs n G1) = _
    rw [h263_54, w1 (by omega)]
    exact b3
def gU (c : Prop) [Decidable c] (D : Sto) (z j : Int) : Sto := if c then up D z j 0 else D
theorem gU_ne {c : Prop} [Decidable c] {z j y i : Int} (h : ¬ (y = z ∧ i = j)) : gU c D z j y i = D y i := by
  unfold gU
  split
  · unfold up
    rw [if_neg h]
  · rfl
theorem ts_go (R : Rel D) (d : Nat) (l1 : Int) : tws xs n (d + 40) 0 149 263 [(0, l1)] D := by
  have R0 := R
  obtain ⟨nb, m, K, X⟩ := R
  have h8 := RelK_8 K
  obtain ⟨B, h3⟩ := pC_B X.2.2.2.1
  have U := X.2.2.2.1
  have e3 : D 46 3 = D 144 0 := U.2.2.1.1
  have h3' : 0 ≤ D 46 3 ∧ D 46 3 ≤ 10000 := h3
  by_cases hA : 0 ≤ l1 ∧ l1 ≤ 200
  · by_cases hB : 9800 < D 46 3 + l1
    · refine tws_sim (D1 := D) (D2 := up D 129 0 0) (a := -1) R0 ?_ ?_ sim_129_0
      · rw [n149, h149_0, c179, cK0, pR0, h149_8, bB_t hA, if_neg (by decide), w32_idP (by omega) (by omega), if_neg (fun z => z hB), h149_26]
      · rw [n263, h263_0, if_neg (by omega), if_neg (by omega), w32_idP (by omega) (by omega), if_neg (by omega), h263_30]
    · have eq : ((l1.toNat : Nat) : Int) = l1 := Int.toNat_of_nonneg hA.1
      -- the class
      have s1 : simH (up (sw0 (gU (0 < l1) D 64 0)) 52 2 1) D := fun z j x y => by
        rw [up_ne (by unfold scr at x; omega), sw0_ne (by unfold scr at x; omega), gU_ne (by unfold scH at y; omega)]
      have f1 : ∀ z : Int, ¬ z = 52 → ¬ z = 64 → (up (sw0 (gU (0 < l1) D 64 0)) 52 2 1) z = D z := fun z a b => by
        funext j
        rw [up_ne a, sw0_ne a, gU_ne (by omega)]
      have C := CE_H K X s1 (fun b _ => by rw [f1 47 (by decide) (by decide)])
      have cr : CR (up (sw0 (gU (0 < l1) D 64 0)) 52 2 1) 46 nb (pC D 46) := ⟨fun j _ _ => by rw [f1 46 (by decide) (by decide)]; rfl, fun b _ => by rw [f1 (46 + 2) (by decide) (by decide)]; rfl⟩
      have W : WF (up (sw0 (gU (0 < l1) D 64 0)) 52 2 1) 0 0 1 := ⟨⟨rfl, Or.inr rfl⟩, rfl, rfl, rfl⟩
      obtain ⟨G1, a1, a2, a3⟩ := c126a (xs := xs) (n := n) (d + 30) l1.toNat (by omega) (fun _ _ _ _ _ _ _ => rfl) C W cr (fun z => PBd_I B h8 z (by omega)) (by omega)
      rw [itP_D (sP_H K s1)] at a2
      rw [eq] at a3
      have a0 : ∀ z : Int, (26 ≤ z ∧ z ≤ 39) ∨ (41 ≤ z ∧ z ≤ 44) ∨ z = 47 ∨ z = 50 ∨ (54 ≤ z ∧ ¬ z = 64) → G1 z = D z := fun z hz => by
        rw [ofR_z a1 (by omega) z (by omega), f1 z (by omega) (by omega)]
      have st1 : den (d + 40) 149 [(2, 1), (0, l1)] (Sg xs n D) = some ((0, G1 46 3), Sg xs n G1) := by
        have e39 : Rn (d + 39) 149 39 [some (2, 1), some (0, l1)] [] (Sg xs n (gU (0 < l1) D 64 0)) = some ((0, G1 46 3), Sg xs n G1) := by
          rw [h149_39, c124, cK9]
          show Rn (d + 39) 149 46 [some (2, 1), some (0, l1)] [] (Sg xs n (up (sw0 (gU (0 < l1) D 64 0)) 52 2 1)) = _
          rw [h149_46, a3, cK9]
          show Rn (d + 39) 149 58 [some (2, 1), some (0, l1)] [] (Sg xs n G1) = _
          rw [h149_58]
        rw [n149, h149_0, c179, cK0, pR0, h149_8, bB_t hA, if_neg (by decide), w32_idP (by omega) (by omega), if_pos hB]
        by_cases q : 0 < l1
        · unfold gU at e39
          rw [if_pos q] at e39
          rw [if_neg (fun z => z q), n28, h28_0, cK9]
          exact e39
        · unfold gU at e39
          rw [if_neg q] at e39
          rw [if_pos q]
          exact e39
      -- the reference
      have s2 : simH (gU (0 < l1) (up G1 129 0 0) 129 43) D := fun z j x y => by
        rw [gU_ne (by unfold scH at y; omega)]
        have e : up G1 129 0 0 z j = G1 z j := by
          unfold up
          rw [if_neg (by unfold scr at x; omega)]
        rw [e, a1 z j (by unfold scH at y; omega) (by unfold scH at y; omega) (by unfold scr at x; omega) (by unfold scr at x; omega) (by unfold scr at x; omega)]
        exact s1 z j x y
      have f2 : ∀ z : Int, ¬ z = 129 → (gU (0 < l1) (up G1 129 0 0) 129 43) z = G1 z := fun z a => by
        funext j
        rw [gU_ne (by omega), up_ne a]
      have u154 : ∀ b : Nat, b < nb → (gU (0 < l1) (up G1 129 0 0) 129 43) 154 (8 * 0 + b) = D 47 b := fun b hb => by
        rw [f2 154 (by decide), a0 154 (by omega)]
        exact (U.1 b hb).1.1.symm
      have V := RV_H (s := 0) K X s2 u154 (by omega)
      have rr : RR (gU (0 < l1) (up G1 129 0 0) 129 43) 0 nb 0 (pC D 46) := by
        have := pC_RR (w := 0) U (by decide)
        obtain ⟨r1, r2, r3⟩ := this
        refine ⟨?_, fun j x y => ?_, fun b hb => ?_⟩
        · rw [f2 153 (by decide), a0 153 (by omega)]
          exact r1
        · have := fc_b x y
          rw [f2 (fc j) (by omega), a0 (fc j) (by omega)]
          exact r2 j x y
        · rw [f2 155 (by decide), a0 155 (by omega)]
          exact r3 b hb
      obtain ⟨G2, b1, b2, b3⟩ := k263 (xs := xs) (n := n) (d + 32) V l1.toNat (by omega) l1.toNat 0 _ (pC D 46) (by omega) (fun _ _ _ _ _ _ _ => rfl) rr B (by omega) h3.1
      rw [itP_D (sP_H K s2)] at b2
      rw [eq] at b3
      have e144 : G2 144 0 = G1 46 3 := by
        have x1 : G2 144 0 = _ := b2.2.1 3 (by omega) (by omega)
        have x2 := a2.1 3 (by omega) (by omega)
        rw [x1, x2]
      have st2 : den (d + 40) 263 [(2, 129), (0, l1)] (Sg xs n G1) = some ((0, G1 46 3), Sg xs n G2) := by
        have e43 : Rn (d + 39) 263 41 [some (2, 129), some (0, l1), none] [] (Sg xs n (gU (0 < l1) (up G1 129 0 0) 129 43)) = some ((0, G1 46 3), Sg xs n G2) := by
          rw [h263_41, ← e144]
          exact b3
        rw [n263, h263_0, if_neg (by omega), if_neg (by omega), a0 144 (by omega), ← e3, w32_idP (by omega) (by omega), if_pos hB]
        by_cases q : 0 < l1
        · unfold gU at e43
          rw [if_pos q] at e43
          rw [if_neg (fun z => z q)]
          exact e43
        · unfold gU at e43
          rw [if_neg q] at e43
          rw [if_pos q]
          exact e43
      -- all stays beside each other
      have f3 : ∀ z : Int, ¬ (142 ≤ z ∧ z ≤ 155) → ¬ z = 129 → G2 z = G1 z := fun z x y => by
        funext j
        rw [b1 z j (by omega) (by omega) (by omega) (by omega) (by omega), f2 z y]
      have f4 : ∀ z j : Int, 144 ≤ z → z ≤ 153 → ¬ j = 0 → G2 z j = D z j := fun z j x y q => by
        rw [b1 z j (by omega) (by omega) (by omega) (by omega) (by omega), f2 z (by omega), a0 z (by omega)]
      have f5 : G2 154 = D 154 := by
        rw [ofQ_z b1 154 (by omega), f2 154 (by omega), a0 154 (by omega)]
      have sF : simH G2 D := fun z j x y => by
        have : G2 z j = (gU (0 < l1) (up G1 129 0 0) 129 43) z j := b1 z j (by unfold scH at y; omega) (by unfold scH at y; omega) (by unfold scr at x; omega) (by unfold scr at x; omega) (by unfold scr at x; omega)
        rw [this]
        exact s2 z j x y
      have I := itP_B (w := 0) (tb := 0) (bn := 1) (EV_of K X) l1.toNat (pC D 46) B h3.1 (by omega)
      have UF : RunE G2 nb 46 0 := by
        refine RunE_of (p := itP D nb m (D 47) 0 0 1 l1.toNat (pC D 46)) ⟨fun j x y => ?_, fun b hb => ?_⟩ b2 I.1 ?_ ?_
        · rw [f3 46 (by decide) (by decide)]
          exact a2.1 j x y
        · rw [f3 (46 + 2) (by decide) (by decide)]
          exact a2.2 b hb
        · have x : (pC D 46).1 3 = D 46 3 := rfl
          rw [I.2.1, eq, x]
          omega
        · intro b hb
          rw [f3 (46 + 1) (by decide) (by decide), a0 (46 + 1) (by omega), f5]
          exact (U.1 b hb).1
      have g64 : ∀ j : Int, ¬ j = 0 → G2 64 j = D 64 j := fun j hj => by
        rw [f3 64 (by decide) (by decide), a1 64 j (by decide) (by decide) (by decide) (by decide) (by omega), up_ne (by decide), sw0_ne (by decide), gU_ne (by omega)]
      have g640 : G2 64 0 = gU (0 < l1) D 64 0 64 0 := by
        rw [f3 64 (by decide) (by decide), a1 64 0 (by decide) (by decide) (by decide) (by decide) (by omega), up_ne (by decide), sw0_ne (by decide)]
      have g129 : ∀ j : Int, ¬ j = 29 → G2 129 j = gU (0 < l1) (up G1 129 0 0) 129 43 129 j := fun j hj => ofQ_129 b1 j hj
      have d129 : ∀ j : Int, ¬ j = 0 → (up G1 129 0 0) 129 j = D 129 j := fun j hj => by rw [up_ni hj, a0 129 (by omega)]
      have HF : HE G2 nb := by
        refine HE_c h8 X.2.2.2.2.1 ⟨g64 4 (by decide), g64 3 (by decide)⟩ ?_ ?_ (fun z x y => by rw [f3 z (by omega) (by omega), a0 z (by omega)]) (fun z s x y q => f4 z s x y (by omega)) ?_
        · rw [g640, g129 43 (by decide)]
          unfold gU
          by_cases q : 0 < l1
          · right
            rw [if_pos q, if_pos q, up_at, up_at]
            exact ⟨rfl, rfl⟩
          · left
            rw [if_neg q, if_neg q, d129 43 (by decide)]
            exact ⟨rfl, rfl⟩
        · rw [g129 42 (by decide), gU_ne (by decide), d129 42 (by decide)]
        · intro z j hz hj
          obtain q | q := hz
          · rw [q, f5]
          · rw [q, b1 155 j (by omega) (by omega) (by omega) (by omega) (by omega), f2 155 (by decide), a0 155 (by omega)]
      exact ⟨G1, G2, G1 46 3, st1, st2, Rel_H K X sF UF HF⟩
  · refine tws_sim (D1 := D) (D2 := up D 129 0 0) (a := -1) R0 ?_ ?_ sim_129_0
    · rw [n149, h149_0, c179, cK0, pR0, h149_8, bB_f hA, if_pos rfl, h149_26]
    · rw [n263, h263_0]
      by_cases q : l1 < 0
      · rw [if_pos q, h263_30]
      · rw [if_neg q, if_pos (by omega), h263_30]
end S89h
