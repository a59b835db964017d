/-! Twins: ahead, tried -/
section S89d
variable {xs : Int → Int} {n : Int × Int} {F D E G : Sto} {nb m : Nat} {w tb bn s : Int} {p : PSt}
theorem sim_129_0 {v : Int} : sim (up D 129 0 v) D := fun z j x => by
  unfold up
  rw [if_neg (by unfold scr at x; omega)]
theorem pC_sim (h : sim E D) : pC E 46 = pC D 46 := by
  unfold pC
  have e1 : E 46 = D 46 := sim_z h 46 (by unfold scz; omega)
  have e2 : E 48 = D 48 := sim_z h 48 (by unfold scz; omega)
  have e2' : E (46 + 2) = D (46 + 2) := e2
  rw [e1, e2']
/-- the reference's copy of the run, for a trial -/
theorem cp1 (K : RelK D nb m) (X : RelX D nb m) (h : sim E D) : sim (cpQ E 1 0) D ∧ RR (cpQ E 1 0) 1 nb 0 (pC D 46) ∧ (∀ b : Nat, b < nb → cpQ E 1 0 154 (8 * 1 + b) = D 47 b) ∧ cpQ E 1 0 129 48 = 0 := by
  have h8 := RelK_8 K
  have X' := RelX_N (simN_of h) h8 X
  refine ⟨sim_t cpQ_sim h, ?_, fun b hb => ?_, ?_⟩
  · have := cpQ_RR (u := 1) h8 (pC_RR (w := 0) X'.2.2.2.1 (by decide))
    rw [pC_sim h] at this
    exact this
  · rw [cpQ_v (by omega) (by omega) (by omega)]
    have := (X'.2.2.2.1.1 b hb).1.1
    have e : E 47 b = E 154 (8 * 0 + b) := this
    rw [← e, sim_z h 47 (by unfold scz; omega)]
  · rw [cpQ_ne (by omega) (by omega)]
    exact X'.2.2.2.2.2.2.1
/-- the class's copy of the run, for a trial -/
theorem cp2 (K : RelK D nb m) (X : RelX D nb m) (h : sim E D) : sim (sw0 (cpR E 49 46)) D ∧ CR (sw0 (cpR E 49 46)) 49 nb (pC D 46) ∧ ∀ b : Nat, b < nb → sw0 (cpR E 49 46) 50 b = D 47 b := by
  have h8 := RelK_8 K
  refine ⟨sim_t sw0_sim (sim_t cpR_sim h), ?_, fun b hb => ?_⟩
  · have := cpR_CR (r := 49) (q := 46) h8 (by decide) (pC_CR (D := E) (nb := nb) (r := 46))
    rw [pC_sim h] at this
    refine ⟨fun j h1 h2 => ?_, fun b hb => ?_⟩
    · rw [sw0_ne (by decide)]
      exact this.1 j h1 h2
    · rw [sw0_ne (by decide)]
      exact this.2 b hb
  · rw [sw0_ne (by decide)]
    have := cpR_1 (D := E) (r := 49) (q := 46) b (by omega)
    have e : cpR E 49 46 50 b = E 47 b := this
    rw [e, sim_z h 47 (by unfold scz; omega)]
theorem ts_ahead (R : Rel D) (d : Nat) (l1 l2 : Int) : tws xs n (d + 40) 0 150 264 [(0, l1), (0, l2)] D := by
  have R0 := R
  obtain ⟨nb, m, K, X⟩ := R
  have h8 := RelK_8 K
  by_cases hA : 0 ≤ l1 ∧ l1 ≤ 200
  · by_cases hB : 0 ≤ l2 ∧ l2 ≤ 4
    · obtain ⟨B, h3⟩ := pC_B X.2.2.2.1
      obtain ⟨e1, e2, e3⟩ := cp2 K X (sim_r (D := D))
      have eq : ((l1.toNat : Nat) : Int) = l1 := Int.toNat_of_nonneg hA.1
      obtain ⟨G1, a1, a2, _, a4⟩ := tr_c (xs := xs) (n := n) K X e1 e2 e3 sw0_W B (by omega) (d + 30) l1.toNat (by omega)
      obtain ⟨f1, f2, f3, f4⟩ := cp1 K X (sim_t sim_129_0 a1)
      obtain ⟨G2, b1, b2, b3, b4⟩ := tr_r (xs := xs) (n := n) K X (simW_of f1) f2 f3 f4 (fun z => absurd z (by decide)) B (by omega) (d + 31) l1.toNat (by omega) (tb := 0)
      have b1' := simW_0 X b1 b3.2
      rw [eq] at a4 b4
      -- what both look at
      have c46 : G1 46 = D 46 := sim_z a1 46 (by unfold scz; omega)
      have c30 : G1 30 0 = nb := by
        rw [sim_z a1 30 (by unfold scz; omega)]
        exact (RelK_G K).1.1.1
      have c131 : G2 131 0 = nb := by
        rw [sim_z b1' 131 (by unfold scz; omega)]
        exact (RelK_G K).1.2.1.1
      have r0 : ∀ z : Int, 144 ≤ z → z ≤ 153 → G2 z 0 = D z 0 := fun z h1 h2 => b1' z 0 (by unfold scr; omega)
      obtain ⟨_, g1, g2, g3, g4, g5, g6, ⟨g8, g9, g10⟩, _, g11⟩ := X.2.2.2.1
      have q4 : G2 146 1 = (itP D nb m (D 47) 0 0 0 l1.toNat (pC D 46)).1 4 := b2.2.1 4 (by omega) (by omega)
      have q5 : G2 147 1 = (itP D nb m (D 47) 0 0 0 l1.toNat (pC D 46)).1 5 := b2.2.1 5 (by omega) (by omega)
      have q7 : G2 149 1 = (itP D nb m (D 47) 0 0 0 l1.toNat (pC D 46)).1 7 := b2.2.1 7 (by omega) (by omega)
      have q8 : G2 150 1 = (itP D nb m (D 47) 0 0 0 l1.toNat (pC D 46)).1 8 := b2.2.1 8 (by omega) (by omega)
      have q9 : G2 151 1 = (itP D nb m (D 47) 0 0 0 l1.toNat (pC D 46)).1 9 := b2.2.1 9 (by omega) (by omega)
      have p4 := a2.1 4 (by omega) (by omega)
      have p5 := a2.1 5 (by omega) (by omega)
      have p7 := a2.1 7 (by omega) (by omega)
      have p8' := a2.1 8 (by omega) (by omega)
      have p9 := a2.1 9 (by omega) (by omega)
      have st1 : den (d + 40) 150 [(2, 1), (0, l1), (0, l2)] (Sg xs n D) = Rn (d + 39) 150 52 [some (2, 1), some (0, l1), some (0, l2)] [] (Sg xs n G1) := by
        rw [n150, h150_0, c179, cK0, pR0, h150_8, bB_t hA, if_neg (by decide), c179, cK0, pR0, h150_17, bB_t hB, if_pos (by decide), c94c, cK9]
        show Rn (d + 39) 150 33 [some (2, 1), some (0, l1), some (0, l2)] [] (Sg xs n (cpR D 49 46)) = _
        rw [h150_33, c123, cK9]
        show Rn (d + 39) 150 40 [some (2, 1), some (0, l1), some (0, l2)] [] (Sg xs n (sw0 (cpR D 49 46))) = _
        rw [h150_40, a4, cK9]
        rfl
      have st2 : den (d + 40) 264 [(2, 129), (0, l1), (0, l2)] (Sg xs n G1) = Rn (d + 39) 264 38 [some (2, 129), some (0, l1), some (0, l2)] [] (Sg xs n G2) := by
        rw [n264, h264_0, if_neg (by omega), if_neg (by omega), if_neg (by omega), if_pos (by omega), c229 (d + 38) 1 0 (by omega) (by omega) (by omega), cK9]
        show Rn (d + 39) 264 33 [some (2, 129), some (0, l1), some (0, l2)] [] (Sg xs n (cpQ (up G1 129 0 0) 1 0)) = _
        rw [h264_33, b4, cK9]
        rfl
      rw [h150_52] at st1
      rw [h264_38, c131, q4, q5, q7, q8, q9, r0 149 (by omega) (by omega), r0 150 (by omega) (by omega), r0 151 (by omega) (by omega), ← g6.1, ← g8, ← g9] at st2
      rw [p5, p7, p8', p9, c46, n178b, h178b_0, c30, p4] at st1
      simp only [h264_88] at st2
      simp only [h178b_22] at st1
      by_cases z0 : l2 = 0
      · rw [if_pos z0] at st1 st2
        by_cases z : (nb : Int) = 0
        · rw [if_neg (fun y => y z)] at st1 st2
          rw [cK0, pR0, h150_92] at st1
          exact tws_sim R0 st1 st2 b1'
        · rw [if_pos z] at st1 st2
          rw [cK0, pR0, h150_92] at st1
          exact tws_sim R0 st1 st2 b1'
      rw [if_neg z0] at st1 st2
      by_cases z1 : l2 = 1
      · rw [if_pos z1] at st1 st2
        exact tws_sim R0 st1 st2 b1'
      rw [if_neg z1] at st1 st2
      by_cases z2 : l2 = 2
      · rw [if_pos z2] at st1 st2
        exact tws_sim R0 st1 st2 b1'
      rw [if_neg z2] at st1 st2
      by_cases z3 : l2 = 3
      · rw [if_pos z3] at st1 st2
        exact tws_sim R0 st1 st2 b1'
      rw [if_neg z3] at st1 st2
      exact tws_sim R0 st1 st2 b1'
    · refine tws_sim (D1 := D) (D2 := up D 129 0 0) (a := -1) R0 ?_ ?_ sim_129_0
      · rw [n150, h150_0, c179, cK0, pR0, h150_8, bB_t hA, if_neg (by decide), c179, cK0, pR0, h150_17, bB_f hB, if_neg (fun z => z rfl), h150_20]
      · rw [n264, h264_0, if_neg (by omega), if_neg (by omega)]
        by_cases q : l2 < 0
        · rw [if_pos q, h264_25]
        · rw [if_neg q, if_neg (by omega), h264_25]
  · refine tws_sim (D1 := D) (D2 := up D 129 0 0) (a := -1) R0 ?_ ?_ sim_129_0
    · rw [n150, h150_0, c179, cK0, pR0, h150_8, bB_f hA, if_pos rfl, h150_20]
    · rw [n264, h264_0]
      by_cases q : l1 < 0
      · rw [if_pos q, h264_25]
      · rw [if_neg q, if_pos (by omega), h264_25]
end S89d
