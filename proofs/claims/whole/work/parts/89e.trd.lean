/-! Twins: tried -/
section S89e
variable {xs : Int → Int} {n : Int × Int} {F D E G : Sto} {nb m : Nat} {w tb bn s : Int} {p : PSt}
theorem c125 (d : Nat) (l1 l2 : Int) (h : 0 ≤ l1 ∧ l1 ≤ 4) : ∃ E', (∀ z : Int, ¬ z = 52 → E' z = E z) ∧ WF E' (if l1 = 0 then 5 else l1) l2 0 ∧ den (d + 1) 125 [(2, 52), (0, l1), (0, l2)] (Sg xs n (sw0 E)) = some ((9, 0), Sg xs n E') := by
  have ne : ∀ (i v z : Int), ¬ z = 52 → up (sw0 E) 52 i v z = E z := fun i v z hz => by
    funext j
    rw [up_ne hz, sw0_ne hz]
  have : l1 = 0 ∨ l1 = 1 ∨ l1 = 2 ∨ l1 = 3 ∨ l1 = 4 := by omega
  obtain q | q | q | q | q := this
  · subst q
    refine ⟨up (sw0 E) 52 3 1, ne 3 1, ⟨⟨rfl, Or.inl rfl⟩, rfl, rfl, rfl⟩, ?_⟩
    rw [n125, h125_0, if_neg (by decide), h125_48]
  · subst q
    refine ⟨sw0 E, fun z hz => sw0_ne hz, ⟨⟨rfl, Or.inl rfl⟩, rfl, rfl, rfl⟩, ?_⟩
    rw [n125, h125_0, if_pos (by decide), if_pos (by decide), if_pos (by decide), if_pos (by decide), h125_48]
  · subst q
    refine ⟨up (sw0 E) 52 5 l2, ne 5 l2, ⟨⟨rfl, Or.inl rfl⟩, rfl, rfl, rfl⟩, ?_⟩
    rw [n125, h125_0, if_pos (by decide), if_neg (by decide), h125_48]
  · subst q
    refine ⟨up (sw0 E) 52 3 2, ne 3 2, ⟨⟨rfl, Or.inl rfl⟩, rfl, rfl, rfl⟩, ?_⟩
    rw [n125, h125_0, if_pos (by decide), if_pos (by decide), if_neg (by decide), h125_48]
  · subst q
    refine ⟨up (sw0 E) 52 4 1, ne 4 1, ⟨⟨rfl, Or.inl rfl⟩, rfl, rfl, rfl⟩, ?_⟩
    rw [n125, h125_0, if_pos (by decide), if_pos (by decide), if_pos (by decide), if_neg (by decide), h125_48]
def pW (l1 : Int) (p : PSt) : PSt := if l1 = 1 then (u1 p.1 2 0, p.2) else p
theorem pW_3 {l1 : Int} : (pW l1 p).1 3 = p.1 3 := by
  unfold pW
  split <;> rfl
theorem pW_B {l1 : Int} (B : PBd nb p) : PBd nb (pW l1 p) := by
  unfold pW
  split
  · obtain ⟨b1, b2⟩ := B
    exact ⟨⟨by show (0 : Int) ≤ 0; omega, by show (0 : Int) < 2 ^ nb; omega⟩, b2⟩
  · exact B
theorem pW_j {l1 j : Int} (h : ¬ j = 2) : (pW l1 p).1 j = p.1 j := by
  unfold pW
  split
  · exact u1_ne h
  · rfl
theorem pW_v {l1 j : Int} : (pW l1 p).2 j = p.2 j := by
  unfold pW
  split <;> rfl
theorem ts_tried (R : Rel D) (d : Nat) (l1 l2 l3 : Int) : tws xs n (d + 40) 0 173 313 [(0, l1), (0, l2), (0, l3)] D := by
  have R0 := R
  obtain ⟨nb, m, K, X⟩ := R
  have h8 := RelK_8 K
  obtain ⟨g, hB, hS, h46, h45, hRB⟩ := RelK_G K
  have H0 : RG (up D 129 0 0) nb m := by
    have := g.2.1
    unfold RG at this ⊢
    simp only [up_ne (show ¬ (131 : Int) = 129 by decide), up_ne (show ¬ (136 : Int) = 129 by decide), up_ne (show ¬ (137 : Int) = 129 by decide)]
    exact this
  -- what is refused
  by_cases hA : ¬ (0 ≤ l1 ∧ l1 ≤ 4)
  · refine tws_sim (D1 := D) (D2 := up D 129 0 0) (a := -1) R0 ?_ ?_ sim_129_0
    · rw [n173, h173_0, c179, cK0, pR0, h173_6, bB_f hA, if_pos rfl, h173_20]
    · rw [n313, h313_0, if_pos (by omega)]
      by_cases q : l1 < 0
      · rw [if_pos q, h313_35, h313_36, if_pos rfl, h313_54]
      · rw [if_neg q, if_pos (by omega), h313_35, h313_36, if_pos rfl, h313_54]
  have hA := Classical.not_not.mp hA
  by_cases hC : ¬ (0 ≤ l3 ∧ l3 ≤ 200)
  · have s36 : ∀ k0 : Int, Rn (d + 39) 313 36 [some (2, 129), some (0, l1), some (0, l2), some (0, l3), none] [(0, k0)] (Sg xs n (up D 129 0 0)) = some ((0, -1), Sg xs n (up D 129 0 0)) := by
      intro k0
      rw [h313_36]
      by_cases q : k0 = 0
      · rw [if_pos q, h313_54]
      · rw [if_neg q]
        by_cases q2 : l3 < 0
        · rw [if_pos q2, h313_54]
        · rw [if_neg q2, if_neg (by omega), h313_54]
    refine tws_sim (D1 := D) (D2 := up D 129 0 0) (a := -1) R0 ?_ ?_ sim_129_0
    · rw [n173, h173_0, c179, cK0, pR0, h173_6, bB_t hA, if_neg (by decide), c179, cK0, pR0, h173_17, bB_f hC, if_neg (fun z => z rfl), h173_20]
    · rw [n313, h313_0]
      by_cases q2 : l1 = 2
      · rw [if_neg (fun z => z q2), c230n _ _ H0, cK0, pR0, h313_15, s36]
      · rw [if_pos q2, if_neg (by omega), if_neg (by omega)]
        by_cases q : l2 = 0
        · rw [if_neg (fun z => z q), s36]
        · rw [if_pos q, h313_35, s36]
  have hC := Classical.not_not.mp hC
  have s1 : den (d + 40) 173 [(2, 1), (0, l1), (0, l2), (0, l3)] (Sg xs n D) = Rn (d + 39) 173 17 [some (2, 1), some (0, l1), some (0, l2), some (0, l3)] [(0, 1)] (Sg xs n D) := by
    rw [n173, h173_0, c179, cK0, pR0, h173_6, bB_t hA, if_neg (by decide), c179, cK0, pR0, bB_t hC]
  have fin : (∀ F : Sto, sim F D → den (d + 40) 313 [(2, 129), (0, l1), (0, l2), (0, l3)] (Sg xs n F) = Rn (d + 39) 313 36 [some (2, 129), some (0, l1), some (0, l2), some (0, l3), none] [(0, 1)] (Sg xs n (up F 129 0 0))) → den (d + 40) 173 [(2, 1), (0, l1), (0, l2), (0, l3)] (Sg xs n D) = Rn (d + 39) 173 50 [some (2, 1), some (0, l1), some (0, l2), some (0, l3)] [] (Sg xs n D) → tws xs n (d + 40) 0 173 313 [(0, l1), (0, l2), (0, l3)] D := by
    intro eR eC
    obtain ⟨B, h3⟩ := pC_B X.2.2.2.1
    obtain ⟨_, g1, g2, g3, g4, g5, g6, ⟨g8, g9, g10⟩, _, g11⟩ := X.2.2.2.1
    have eq : ((l3.toNat : Nat) : Int) = l3 := Int.toNat_of_nonneg hC.1
    have f52 : ∀ (F : Sto) (d : Nat), sim F D → ∃ E', sim E' D ∧ (∀ z : Int, ¬ z = 52 → E' z = cpR F 49 46 z) ∧ WF E' (if l1 = 0 then 5 else l1) l2 0 ∧ den (d + 1) 125 [(2, 52), (0, l1), (0, l2)] (Sg xs n (sw0 (cpR F 49 46))) = some ((9, 0), Sg xs n E') := by
      intro F d hF
      obtain ⟨E', a1, a2, a3⟩ := c125 (xs := xs) (n := n) (E := cpR F 49 46) d l1 l2 hA
      refine ⟨E', ?_, a1, a2, a3⟩
      intro z j x
      rw [a1 z (by unfold scr at x; omega)]
      exact (sim_t cpR_sim hF) z j x
    obtain ⟨E1, a1, a2, a3, a4⟩ := f52 D (d + 38) sim_r
    obtain ⟨_, e2, e3⟩ := cp2 K X (sim_r (D := D))
    -- the class's trial
    have E2 : ∃ E2, sim E2 D ∧ CR E2 49 nb (pW l1 (pC D 46)) ∧ (∀ b : Nat, b < nb → E2 50 b = D 47 b) ∧ WF E2 (if l1 = 0 then 5 else l1) l2 0 ∧ Rn (d + 39) 173 77 [some (2, 1), some (0, l1), some (0, l2), some (0, l3)] [] (Sg xs n E1) = Rn (d + 39) 173 90 [some (2, 1), some (0, l1), some (0, l2), some (0, l3)] [] (Sg xs n E2) := by
      have c49 : CR E1 49 nb (pC D 46) := by
        refine ⟨fun j h1 h2 => ?_, fun b hb => ?_⟩
        · rw [a2 49 (by decide)]
          have := e2.1 j h1 h2
          rw [sw0_ne (by decide)] at this
          exact this
        · rw [a2 (49 + 2) (by decide)]
          have := e2.2 b hb
          rw [sw0_ne (by decide)] at this
          exact this
      have c50 : ∀ b : Nat, b < nb → E1 50 b = D 47 b := fun b hb => by
        rw [a2 50 (by decide)]
        have := e3 b hb
        rw [sw0_ne (by decide)] at this
        exact this
      by_cases q : l1 = 1
      · refine ⟨up E1 49 2 0, ?_, ?_, ?_, ?_, ?_⟩
        · intro z j x
          rw [up_ne (by unfold scr at x; omega)]
          exact a1 z j x
        · unfold pW
          rw [if_pos q]
          exact CR_f c49
        · intro b hb
          rw [up_ne (by decide)]
          exact c50 b hb
        · unfold WF
          rw [up_ne (show ¬ (52 : Int) = 49 by decide), up_ne (show ¬ (52 : Int) = 49 by decide), up_ne (show ¬ (52 : Int) = 49 by decide), up_ne (show ¬ (52 : Int) = 49 by decide)]
          exact a3
        · rw [h173_77, if_neg (fun z => z q)]
      · refine ⟨E1, a1, ?_, c50, a3, ?_⟩
        · unfold pW
          rw [if_neg q]
          exact c49
        · rw [h173_77, if_pos q]
    obtain ⟨E2, x1, x2, x3, x4, x5⟩ := E2
    obtain ⟨G1, y1, y2, _, y4⟩ := tr_c (xs := xs) (n := n) K X x1 x2 x3 x4 (pW_B B) (by rw [pW_3]; omega) (d + 30) l3.toNat (by omega)
    rw [eq] at y4
    obtain ⟨f1, f2, f3, f4⟩ := cp1 K X (sim_t sim_129_0 y1)
    have c46 : G1 46 = D 46 := sim_z y1 46 (by unfold scz; omega)
    have p7 := y2.1 7 (by omega) (by omega)
    have st1 : den (d + 40) 173 [(2, 1), (0, l1), (0, l2), (0, l3)] (Sg xs n D) = some ((0, w32 ((itP D nb m (D 47) (if l1 = 0 then 5 else l1) l2 0 l3.toNat (pW l1 (pC D 46))).1 7 - D 46 7)), Sg xs n G1) := by
      rw [eC, h173_50, c94c, cK9]
      show Rn (d + 39) 173 61 [some (2, 1), some (0, l1), some (0, l2), some (0, l3)] [] (Sg xs n (cpR D 49 46)) = _
      rw [h173_61, c123, cK9]
      show Rn (d + 39) 173 68 [some (2, 1), some (0, l1), some (0, l2), some (0, l3)] [] (Sg xs n (sw0 (cpR D 49 46))) = _
      rw [h173_68, a4, cK9]
      show Rn (d + 39) 173 77 [some (2, 1), some (0, l1), some (0, l2), some (0, l3)] [] (Sg xs n E1) = _
      rw [x5, h173_90, y4, cK9]
      show Rn (d + 39) 173 102 [some (2, 1), none, none, some (0, l3)] [] (Sg xs n G1) = _
      rw [h173_102, p7, c46]
    -- the reference's trial
    have F2s : simW (up (up (cpQ (up G1 129 0 0) 1 0) 129 48 (if l1 = 0 then 5 else l1)) 129 49 l2) D := by
      intro z j x y
      have e : (up (up (cpQ (up G1 129 0 0) 1 0) 129 48 (if l1 = 0 then 5 else l1)) 129 49 l2) z j = cpQ (up G1 129 0 0) 1 0 z j := by
        unfold up
        rw [if_neg (by unfold scr at x; omega), if_neg y]
      rw [e]
      exact f1 z j x
    have F2r : RR (up (up (cpQ (up G1 129 0 0) 1 0) 129 48 (if l1 = 0 then 5 else l1)) 129 49 l2) 1 nb (if l1 = 0 then 5 else l1) (pW l1 (pC D 46)) := by
      obtain ⟨r1, r2, r3⟩ := f2
      refine ⟨?_, fun j h1 h2 => ?_, fun b hb => ?_⟩
      · by_cases q : l1 = 1
        · left
          refine ⟨by rw [if_neg (by omega)]; exact q, ?_⟩
          unfold pW
          rw [if_pos q]
          rfl
        · right
          refine ⟨?_, ?_⟩
          · split
            · decide
            · exact q
          · rw [up_ne (by decide), up_ne (by decide)]
            unfold pW
            rw [if_neg q]
            obtain ⟨z, _⟩ | ⟨_, z⟩ := r1
            · omega
            · exact z
      · have := fc_b h1 h2
        rw [up_ne (by omega), up_ne (by omega), pW_j (by omega)]
        exact r2 j h1 h2
      · rw [up_ne (by decide), up_ne (by decide), pW_v]
        exact r3 b hb
    obtain ⟨G2, b1, b2, b3, b4⟩ := tr_r (xs := xs) (n := n) (w := if l1 = 0 then 5 else l1) (tb := l2) K X F2s F2r (fun b hb => by rw [up_ne (by decide), up_ne (by decide)]; exact f3 b hb) (by rw [up_ni (by decide), up_at]) (fun _ => up_at) (pW_B B) (by rw [pW_3]; omega) (d + 31) l3.toNat (by omega)
    rw [eq] at b4
    have q7 : G2 149 1 = (itP D nb m (D 47) (if l1 = 0 then 5 else l1) l2 0 l3.toNat (pW l1 (pC D 46))).1 7 := b2.2.1 7 (by omega) (by omega)
    have q70 : G2 149 0 = D 46 7 := by
      rw [b1 149 0 (by unfold scr; omega) (by omega)]
      exact g6.1.symm
    have st2 : den (d + 40) 313 [(2, 129), (0, l1), (0, l2), (0, l3)] (Sg xs n G1) = some ((0, w32 ((itP D nb m (D 47) (if l1 = 0 then 5 else l1) l2 0 l3.toNat (pW l1 (pC D 46))).1 7 - D 46 7)), Sg xs n (up (up G2 129 48 0) 129 49 (-1))) := by
      have e72 : Rn (d + 39) 313 62 [some (2, 129), some (0, l1), some (0, l2), some (0, l3), some (0, 1)] [] (Sg xs n (cpQ (up G1 129 0 0) 1 0)) = Rn (d + 39) 313 72 [some (2, 129), some (0, l1), some (0, l2), some (0, l3), some (0, 1)] [(0, if l1 = 0 then 5 else l1), (2, 129)] (Sg xs n (cpQ (up G1 129 0 0) 1 0)) := by
        rw [h313_62]
        by_cases q : l1 = 0
        · rw [if_neg (fun z => z q), if_pos q]
        · rw [if_pos q, if_neg q]
      rw [eR G1 y1, h313_36, if_neg (by decide), if_neg (by omega), if_pos (by omega), c229 (d + 38) 1 0 (by omega) (by omega) (by omega), cK9]
      refine Eq.trans e72 ?_
      rw [h313_72, b4, cK9]
      show Rn (d + 39) 313 85 [some (2, 129), none, some (0, l2), some (0, l3), none] [] (Sg xs n G2) = _
      rw [h313_85, q7, q70]
    refine tws_sim R0 st1 st2 ?_
    intro z j x
    by_cases q : z = 129 ∧ j = 48
    · rw [q.1, q.2, up_ni (by decide), up_at, X.2.2.2.2.2.2.1]
    · have e : (up (up G2 129 48 0) 129 49 (-1)) z j = G2 z j := by
        unfold up
        rw [if_neg (by unfold scr at x; omega), if_neg q]
      rw [e]
      exact b1 z j x q
  by_cases q2 : l1 = 2
  · by_cases hI : 0 ≤ l2 ∧ l2 < (nb : Int)
    · apply fin
      · intro F hF
        have HF : RG (up F 129 0 0) nb m := by
          have := (RelK_G (RelK_sim K (sim_t (sim_129_0 (v := 0)) hF))).1.2.1
          exact this
        rw [n313, h313_0, if_neg (fun z => z q2), c230n _ _ HF, cK0, pR0, h313_15, bB_t hI]
      · rw [s1, h173_17, if_pos (by decide), if_neg (fun z => z q2), c6n _ _ g.1, cK0, pR0, h173_38, bB_t hI, if_pos (by decide)]
    · refine tws_sim (D1 := D) (D2 := up D 129 0 0) (a := -1) R0 ?_ ?_ sim_129_0
      · rw [s1, h173_17, if_pos (by decide), if_neg (fun z => z q2), c6n _ _ g.1, cK0, pR0, h173_38, bB_f hI, if_neg (fun z => z rfl), h173_48]
      · rw [n313, h313_0, if_neg (fun z => z q2), c230n _ _ H0, cK0, pR0, h313_15, bB_f hI, h313_36, if_pos rfl, h313_54]
  · by_cases q0 : l2 = 0
    · apply fin
      · intro F hF
        rw [n313, h313_0, if_pos q2, if_neg (by omega), if_neg (by omega), if_neg (fun z => z q0)]
      · rw [s1, h173_17, if_pos (by decide), if_pos q2, if_pos q0]
    · refine tws_sim (D1 := D) (D2 := up D 129 0 0) (a := -1) R0 ?_ ?_ sim_129_0
      · rw [s1, h173_17, if_pos (by decide), if_pos q2, if_neg q0, h173_48]
      · rw [n313, h313_0, if_pos q2, if_neg (by omega), if_neg (by omega), if_pos q0, h313_35, h313_36, if_pos rfl, h313_54]
end S89e
