/-! Twins: law, go -/
section S89g
variable {xs : Int → Int} {n : Int × Int} {F D E G : Sto} {nb m : Nat} {sg : Int → Int} {w tb bn s : Int} {p : PSt}
/-- a rule that there isn't -/
theorem k135z (d : Nat) (rule b : Int) (hr : ¬ (0 ≤ rule ∧ rule ≤ 2)) (h : ofR 46 G D) (C : CE D nb m sg 46) (W : WF D w tb bn) (hp : CR G 46 nb p) (P : PI nb p) (h0 : 0 ≤ b) (h1 : b < nb) : ∃ G', ofL G' G ∧ den (d + 6) 135 [(2, 52), (0, rule), (2, 46), (0, b)] (Sg xs n G) = some ((1, -9223372036854775808), Sg xs n G') := by
  have h8 := C.1.1.2.1
  have t33 := (C.2.2.1 b.toNat (by omega)).1.1
  have tv := hp.2 b.toNat (by omega)
  rw [Int.toNat_of_nonneg h0] at t33 tv
  have tv' : G 48 b = p.2 b := tv
  have N : nm7 G (wkP D w tb b) (G 48 b) (G 46 5) b (G 33 b) (G 46 7) (G 46 3) = nm7 G (wkP D w tb b) (p.2 b) (p.1 5) b (cntE (D 136) b m) (p.1 7) (p.1 3) := by
    rw [tv', hp.1 5 (by omega) (by omega), hp.1 7 (by omega) (by omega), hp.1 3 (by omega) (by omega), ofR_z h (by omega) 33 (by omega), t33]
  have at7 := nm7_at (G := G) (a0 := wkP D w tb b) (a1 := p.2 b) (a2 := p.1 5) (a3 := b) (a4 := cntE (D 136) b m) (a5 := p.1 7) (a6 := p.1 3)
  have ne7 : ∀ z j : Int, ¬ z = 53 → nm7 G (wkP D w tb b) (p.2 b) (p.1 5) b (cntE (D 136) b m) (p.1 7) (p.1 3) z j = G z j := fun z j hz => nm7_ne hz
  generalize hG1 : nm7 G (wkP D w tb b) (p.2 b) (p.1 5) b (cntE (D 136) b m) (p.1 7) (p.1 3) = G1 at N at7 ne7
  have nmj : ∀ j : Nat, j < 7 → G1 53 j = nmP D m w tb p b j := by
    intro j hj
    have : j = 0 ∨ j = 1 ∨ j = 2 ∨ j = 3 ∨ j = 4 ∨ j = 5 ∨ j = 6 := by omega
    obtain q | q | q | q | q | q | q := this
    · rw [q]; exact at7.1
    · rw [q]; exact at7.2.1
    · rw [q]; exact at7.2.2.1
    · rw [q]; exact at7.2.2.2.1
    · rw [q]; exact at7.2.2.2.2.1
    · rw [q]; exact at7.2.2.2.2.2.1
    · rw [q]; exact at7.2.2.2.2.2.2
  have fz : ∀ z : Int, (41 ≤ z ∧ z ≤ 44) ∨ (138 ≤ z ∧ z ≤ 141) → G1 z = D z := fun z hz => funext (fun j => by rw [ne7 z j (by omega), ofR_z h (by omega) z (by omega)])
  have EVD := C.2.2.2.2.2
  have nml := nmP_l (w := w) (tb := tb) EVD P h0 h1
  obtain ⟨G', a1, a2⟩ := c42 (xs := xs) (n := n) (D := G1) d rule (LE_D fz EVD.1.2) (fun j hj => by rw [nmj j hj]; exact nml j)
  rw [if_neg hr] at a2
  refine ⟨G', fun z j x1 x2 x3 => (a1 z j x2 x3).trans (ne7 z j x1), ?_⟩
  rw [n135a, h135a_0, k134 (d + 4) b h (by omega) W C h0 h1, cK0, pR0, h135a_15, if_pos (by rfl), inb_t h0 (show b < 8 by omega), if_pos rfl, if_pos rfl]
  show cK (den (d + 5) 42 [(2, 40), (0, rule), (2, 53)] (Sg xs n (nm7 G (wkP D w tb b) (G 48 b) (G 46 5) b (G 33 b) (G 46 7) (G 46 3)))) _ = _
  rw [N, a2, cK1, pR1, h135a_135]
  rfl
theorem CE_47 (K : RelK D nb m) (X : RelX D nb m) (h : sim E D) : CE E nb m (D 47) 46 := by
  have C := CE_of (RelK_sim K h) (RelX_N (simN_of h) (RelK_8 K) X)
  rw [sim_z h 47 (by unfold scz; omega)] at C
  exact C
theorem ofL_sim (h : ofL G D) : sim G D := fun z j x => h z j (by unfold scr at x; omega) (by unfold scr at x; omega) (by unfold scr at x; omega)
theorem ofM_sim (h : ofM G D) : sim G D := fun z j x => h z j (by unfold scr at x; omega) (by unfold scr at x; omega) (by unfold scr at x; omega)
theorem ts_law (R : Rel D) (d : Nat) (l1 l2 : Int) : tws xs n (d + 40) 1 145 258 [(0, l1), (0, l2)] D := by
  have R0 := R
  obtain ⟨nb, m, K, X⟩ := R
  obtain ⟨g, hB, hS, h46, h45, hRB⟩ := RelK_G K
  obtain ⟨B, h3⟩ := pC_B X.2.2.2.1
  have HG : ∀ {F : Sto}, sim F D → RG F nb m := fun h => (RelK_G (RelK_sim K h)).1.2.1
  by_cases hI : 0 ≤ l2 ∧ l2 < (nb : Int)
  · have P := PBd_I B (RelK_8 K) (by omega) (by omega)
    have C := CE_47 K X (sw0_sim (D := D))
    have cr : CR (sw0 D) 46 nb (pC D 46) := ⟨fun j _ _ => by rw [sw0_ne (by decide)]; rfl, fun b _ => by rw [sw0_ne (by decide)]; rfl⟩
    have cls : ∀ (a : Int) (G' : Sto), den (d + 39) 135 [(2, 52), (0, l1), (2, 46), (0, l2)] (Sg xs n (sw0 D)) = some ((1, a), Sg xs n G') → den (d + 40) 145 [(2, 1), (0, l1), (0, l2)] (Sg xs n D) = some ((1, a), Sg xs n G') := by
      intro a G' e
      rw [n145, h145_0, c6n _ _ g.1, cK0, pR0, h145_11, bB_t hI, if_pos (by decide), c123, cK9]
      show Rn (d + 39) 145 25 [some (2, 1), some (0, l1), some (0, l2)] [] (Sg xs n (sw0 D)) = _
      rw [h145_25, e, cK1, pR1, h145_38]
    by_cases hr : 0 ≤ l1 ∧ l1 ≤ 2
    · obtain ⟨G1, a1, a2⟩ := k135a (xs := xs) (n := n) (D := sw0 D) (G := sw0 D) (d + 33) l1 l2 hr (fun _ _ _ _ _ _ _ => rfl) C sw0_W cr P hI.1 hI.2
      rw [lwP_D (sP_W K (simW_of (sw0_sim (D := D))))] at a2
      have s1 := sim_t (ofL_sim a1) (sw0_sim (D := D))
      have s2 := sim_t (sim_129_0 (v := 0)) s1
      have X' := RelX_N (simN_of s2) (RelK_8 K) X
      have rr := pC_RR (w := 0) X'.2.2.2.1 (by decide)
      rw [pC_sim s2] at rr
      have V := RV_W (s := 0) (w := 0) (tb := 0) K X (simW_of s2) (fun b hb => by
        have := (X'.2.2.2.1.1 b hb).1.1
        have e : (up G1 129 0 0) 47 b = (up G1 129 0 0) 154 (8 * 0 + b) := this
        rw [← e, sim_z s2 47 (by unfold scz; omega)]) X'.2.2.2.2.2.2.1 (fun z => absurd z (by decide)) (by omega)
      have el : ((l1.toNat : Nat) : Int) = l1 := Int.toNat_of_nonneg hr.1
      have e225 := c225 (xs := xs) (n := n) (D := up G1 129 0 0) (d + 38) l1.toNat (by omega)
      rw [el] at e225
      obtain ⟨G2, b1, b2, b3, b4, b5⟩ := kNm (xs := xs) (n := n) (d + 37) l2 (fun _ _ _ _ _ _ _ => rfl : ofQ 0 (up G1 129 0 0) (up G1 129 0 0)) V rr hI.1 hI.2
      have kl := kLaw (xs := xs) (n := n) (w := 0) (tb := 0) (d + 35) l1.toNat l2 (by omega) b2 V P hI.1 hI.2 b4
      rw [el, lwP_D (sP_W K (simW_of s2))] at kl
      have e40 : (up G1 129 0 0) 138 l1 < (up G1 129 0 0) 139 l1 → den (d + 40) 258 [(2, 129), (0, l1), (0, l2)] (Sg xs n G1) = Rn (d + 39) 258 40 [some (2, 129), some (0, l1), some (0, l2)] [] (Sg xs n G2) := by
        intro q
        rw [n258, h258_0, if_neg (by omega), if_neg (by omega), e225, cK0, pR0, h258_19, bB_t q, if_neg (by decide), c230n _ _ (HG s2), cK0, pR0, h258_27, bB_t hI, if_pos (by decide), b5, cK9]
        rfl
      have e2 : ofQ 0 G2 (up G1 129 0 0) := b2
      have ez : G2 138 = (up G1 129 0 0) 138 ∧ G2 139 = (up G1 129 0 0) 139 := ⟨ofQ_z b2 138 (by omega), ofQ_z b2 139 (by omega)⟩
      have e225' := c225 (xs := xs) (n := n) (D := G2) (d + 38) l1.toNat (by omega)
      rw [el, ez.1, ez.2] at e225'
      obtain ⟨l1', l2'⟩ | ⟨l1', G3, l2', l3'⟩ := kl
      · have q : ¬ (up G1 129 0 0) 138 l1 < (up G1 129 0 0) 139 l1 := by
          intro q
          rw [bB_t q] at e225'
          rw [l2'] at e225'
          injection e225' with e
          injection e with e
          injection e with _ e
          omega
        refine tws_sim (D1 := G1) (D2 := up G1 129 0 0) (a := -9223372036854775808) R0 ?_ ?_ s2
        · apply cls
          rw [a2, l1']
          rfl
        · rw [n258, h258_0, if_neg (by omega), if_neg (by omega), e225, cK0, pR0, h258_19, bB_f q, if_pos rfl, h258_30]
      · have q : (up G1 129 0 0) 138 l1 < (up G1 129 0 0) 139 l1 := by
          apply Classical.byContradiction
          intro q
          rw [bB_f q] at e225'
          rw [l1'] at e225'
          injection e225' with e
          injection e with e
          injection e with _ e
          omega
        have s3 : sim G3 D := sim_t (ofM_sim (ofV_M l2')) (sim_t (ofM_sim b1) s2)
        obtain ⟨m1, m2'⟩ | ⟨m1, m2', m3⟩ := l3'
        · refine tws_sim (D1 := G1) (D2 := G3) (a := -9223372036854775808) R0 ?_ ?_ s3
          · apply cls
            rw [a2, m1]
            rfl
          · rw [e40 q, h258_40, m2', cK0, pR0, h258_45, if_pos rfl, h258_60]
        · refine tws_sim (D1 := G1) (D2 := G3) (a := G3 143 0) R0 ?_ ?_ s3
          · apply cls
            rw [a2, m1]
            rfl
          · rw [e40 q, h258_40, m3, cK0, pR0, h258_45, if_neg (by decide), h258_60]
    · obtain ⟨G1, a1, a2⟩ := k135z (xs := xs) (n := n) (D := sw0 D) (G := sw0 D) (d + 33) l1 l2 hr (fun _ _ _ _ _ _ _ => rfl) C sw0_W cr P hI.1 hI.2
      have s1 := sim_t (ofL_sim a1) (sw0_sim (D := D))
      refine tws_sim (D1 := G1) (D2 := up G1 129 0 0) (a := -9223372036854775808) R0 (cls _ _ a2) ?_ (sim_t sim_129_0 s1)
      rw [n258, h258_0]
      by_cases q : l1 < 0
      · rw [if_pos q, h258_30]
      · rw [if_neg q, if_pos (by omega), h258_30]
  · refine tws_sim (D1 := D) (D2 := up D 129 0 0) (a := -9223372036854775808) R0 ?_ ?_ sim_129_0
    · rw [n145, h145_0, c6n _ _ g.1, cK0, pR0, h145_11, bB_f hI, if_neg (fun z => z rfl)]
    · rw [n258, h258_0]
      by_cases q : l1 < 0
      · rw [if_pos q, h258_30]
      · rw [if_neg q]
        by_cases q2 : 2 < l1
        · rw [if_pos q2, h258_30]
        · have el : ((l1.toNat : Nat) : Int) = l1 := Int.toNat_of_nonneg (by omega)
          have e225 := c225 (xs := xs) (n := n) (D := up D 129 0 0) (d + 38) l1.toNat (by omega)
          rw [el] at e225
          rw [if_neg q2, e225, cK0, pR0, h258_19]
          by_cases q3 : bB ((up D 129 0 0) 138 l1 < (up D 129 0 0) 139 l1) = 0
          · rw [if_pos q3, h258_30]
          · rw [if_neg q3, c230n _ _ (HG sim_129_0), cK0, pR0, h258_27, bB_f hI, if_neg (fun z => z rfl), h258_30]
end S89g
