/-! Twins: comes, chance -/
def cmP (f : PSt → PSt) (l1 : Int) : Nat → Nat → PSt → Int
  | 0, _, _ => -2
  | r + 1, i, p => if p.1 4 = l1 then (i : Int) else cmP f l1 r (i + 1) (f p)
def chP (f : PSt → PSt) (p : PSt) : Nat → Int → Int → Int
  | 0, _, c => c
  | r + 1, sd, c => chP f p r ((f (u1 p.1 11 sd, p.2)).1 11) (c + bB (p.1 8 < (f (u1 p.1 11 sd, p.2)).1 8))
section S89f
variable {xs : Int → Int} {n : Int × Int} {F D E G : Sto} {nb m : Nat} {sg : Int → Int} {w tb bn s : Int} {p : PSt}
theorem k151 (d : Nat) (l1 : Int) (hn : 0 < nb) (C : CE E nb m sg 49) (W : WF E w tb bn) : ∀ (r i : Nat) (G : Sto) (p : PSt), i + r = 200 → ofR 49 G E → CR G 49 nb p → PBd nb p → 0 ≤ p.1 3 → p.1 3 + r ≤ 20000 → ∃ G', ofR 49 G' E ∧ Rn (d + 9) 151 36 [some (2, 1), some (0, l1), some (0, (i : Int))] [] (Sg xs n G) = some ((0, cmP (stP E nb m sg w tb bn) l1 r i p), Sg xs n G') := by
  intro r
  induction r with
  | zero =>
    intro i G p hi h hp _ _ _
    refine ⟨G, h, ?_⟩
    rw [h151_36, if_pos (by omega)]
    rfl
  | succ r ih =>
    intro i G p hi h hp B h3 h3'
    have EVD := C.2.2.2.2.2
    have e4 := hp.1 4 (by omega) (by omega)
    rw [h151_36, if_neg (by omega), e4]
    rw [show cmP (stP E nb m sg w tb bn) l1 (r + 1) i p = if p.1 4 = l1 then (i : Int) else cmP (stP E nb m sg w tb bn) l1 r (i + 1) (stP E nb m sg w tb bn p) from rfl]
    by_cases q : p.1 4 = l1
    · refine ⟨G, h, ?_⟩
      rw [if_neg (fun z => z q), if_pos q]
    · obtain ⟨G1, a1, a2, a3⟩ := c126b (xs := xs) (n := n) d 1 (by omega) h C W hp (fun z => PBd_I B EVD.1.1.2.1 z (by omega)) (by omega)
      have s3 := stP_3 (D := E) (nb := nb) (m := m) (sg := sg) (w := w) (tb := tb) (bn := bn) p (by omega)
      have a2' : CR G1 49 nb (stP E nb m sg w tb bn p) := a2
      obtain ⟨G', b1, b2⟩ := ih (i + 1) G1 _ (by omega) a1 a2' (stP_B EVD B (by omega)) (by omega) (by omega)
      refine ⟨G', b1, ?_⟩
      have a3' : den (d + 9) 126 [(2, 52), (2, 49), (0, 1)] (Sg xs n G) = some ((9, 0), Sg xs n G1) := a3
      rw [if_pos q, if_neg q, a3', cK9]
      show Rn (d + 9) 151 68 [some (2, 1), some (0, l1), some (0, (i : Int))] [] (Sg xs n G1) = _
      rw [h151_68, w1 (by omega)]
      exact b2
theorem k265 (d : Nat) (l1 : Int) (hn : 0 < nb) (V : RV E nb m sg 1 w tb) : ∀ (r i : Nat) (G : Sto) (p : PSt), i + r = 200 → ofQ 1 G E → RR G 1 nb w p → PBd nb p → 0 ≤ p.1 3 → p.1 3 + r ≤ 20000 → ∃ G', ofQ 1 G' E ∧ Rn (d + 7) 265 23 [some (2, 129), some (0, l1), some (0, (i : Int))] [] (Sg xs n G) = some ((0, cmP (stP E nb m sg w tb 0) l1 r i p), Sg xs n G') := by
  intro r
  induction r with
  | zero =>
    intro i G p hi h hp _ _ _
    refine ⟨G, h, ?_⟩
    rw [h265_23, if_pos (by omega)]
    rfl
  | succ r ih =>
    intro i G p hi h hp B h3 h3'
    have EVD := V.1.2
    have e4 : G 146 1 = p.1 4 := hp.2.1 4 (by omega) (by omega)
    rw [h265_23, if_neg (by omega), e4]
    rw [show cmP (stP E nb m sg w tb 0) l1 (r + 1) i p = if p.1 4 = l1 then (i : Int) else cmP (stP E nb m sg w tb 0) l1 r (i + 1) (stP E nb m sg w tb 0 p) from rfl]
    by_cases q : p.1 4 = l1
    · refine ⟨G, h, ?_⟩
      rw [if_neg (fun z => z q), if_pos q]
    · obtain ⟨G1, a1, a2, a3⟩ := k252 (xs := xs) (n := n) (bn := 0) d h V hp (fun z => PBd_I B EVD.1.1.2.1 z (by omega))
      have s3 := stP_3 (D := E) (nb := nb) (m := m) (sg := sg) (w := w) (tb := tb) (bn := 0) p (by omega)
      obtain ⟨G', b1, b2⟩ := ih (i + 1) G1 _ (by omega) a1 a2 (stP_B EVD B (by omega)) (by omega) (by omega)
      refine ⟨G', b1, ?_⟩
      rw [if_pos q, if_neg q, a3, cK9]
      show Rn (d + 7) 265 48 [some (2, 129), some (0, l1), some (0, (i : Int))] [] (Sg xs n G1) = _
      rw [h265_48, w1 (by omega)]
      exact b2
theorem ts_comes (R : Rel D) (d : Nat) (l1 : Int) : tws xs n (d + 40) 0 151 265 [(0, l1)] D := by
  have R0 := R
  obtain ⟨nb, m, K, X⟩ := R
  obtain ⟨g, hB, hS, h46, h45, hRB⟩ := RelK_G K
  by_cases hI : 0 ≤ l1 ∧ l1 < (nb : Int)
  · obtain ⟨B, h3⟩ := pC_B X.2.2.2.1
    obtain ⟨e1, e2, e3⟩ := cp2 K X (sim_r (D := D))
    obtain ⟨G1, a1, a2⟩ := k151 (xs := xs) (n := n) (d + 30) l1 (by omega) (CE_W K X e1 e3) sw0_W 200 0 _ (pC D 46) (by omega) (fun _ _ _ _ _ _ _ => rfl) e2 B h3.1 (by omega)
    have s1 := sim_t (ofR_sim a1) e1
    obtain ⟨f1, f2, f3, f4⟩ := cp1 K X (sim_t (sim_129_0 (v := 0)) s1)
    have V := RV_W (s := 1) (tb := 0) K X (simW_of f1) f3 f4 (fun z => absurd z (by decide)) (by omega)
    obtain ⟨G2, b1, b2⟩ := k265 (xs := xs) (n := n) (d + 32) l1 (by omega) V 200 0 _ (pC D 46) (by omega) (fun _ _ _ _ _ _ _ => rfl) f2 B h3.1 (by omega)
    rw [stP_D (sP_W K (simW_of e1))] at a2
    rw [stP_D (sP_W K (simW_of f1))] at b2
    refine tws_sim (D1 := G1) (D2 := G2) (a := cmP (stP D nb m (D 47) 0 0 0) l1 200 0 (pC D 46)) R0 ?_ ?_ (sim_t (ofQ_sim b1) f1)
    · rw [n151, h151_0, c6n _ _ g.1, cK0, pR0, h151_11, bB_t hI, if_pos (by decide), c94c, cK9]
      show Rn (d + 39) 151 27 [some (2, 1), some (0, l1), none] [] (Sg xs n (cpR D 49 46)) = _
      rw [h151_27, c123, cK9]
      show Rn (d + 39) 151 34 [some (2, 1), some (0, l1), none] [] (Sg xs n (sw0 (cpR D 49 46))) = _
      rw [h151_34]
      exact a2
    · have HF := (RelK_G (RelK_sim K (sim_t (sim_129_0 (v := 0)) s1))).1.2.1
      rw [n265, h265_0, c230n _ _ HF, cK0, pR0, h265_10, bB_t hI, if_pos (by decide), c229 (d + 38) 1 0 (by omega) (by omega) (by omega), cK9]
      show Rn (d + 39) 265 21 [some (2, 129), some (0, l1), none] [] (Sg xs n (cpQ (up G1 129 0 0) 1 0)) = _
      rw [h265_21]
      exact b2
  · refine tws_sim (D1 := D) (D2 := up D 129 0 0) (a := -1) R0 ?_ ?_ sim_129_0
    · rw [n151, h151_0, c6n _ _ g.1, cK0, pR0, h151_11, bB_f hI, if_neg (fun z => z rfl)]
    · have HF := (RelK_G (RelK_sim K (sim_129_0 (D := D) (v := 0)))).1.2.1
      rw [n265, h265_0, c230n _ _ HF, cK0, pR0, h265_10, bB_f hI, if_neg (fun z => z rfl)]
theorem k312 (d : Nat) (V : RV D nb m sg 1 w tb) (q : Nat) (hq : q < 1000) (l4 l5 : Int) : ∀ (r i : Nat) (G : Sto) (p : PSt) (o3 : Option Vv), i + r = q → ofQ 1 G D → RR G 1 nb w p → PBd nb p → p.1 3 + r ≤ 1000000 → 0 ≤ p.1 3 → ∃ G' o3', ofQ 1 G' D ∧ RR G' 1 nb w (itP D nb m sg w tb 1 r p) ∧ Rn (d + 7) 312 53 [some (2, 129), none, some (0, (q : Int)), o3, some (0, l4), some (0, l5), some (0, (i : Int))] [] (Sg xs n G) = Rn (d + 7) 312 53 [some (2, 129), none, some (0, (q : Int)), o3', some (0, l4), some (0, l5), some (0, (q : Int))] [] (Sg xs n G') := by
  have EVD := V.1.2
  intro r
  induction r with
  | zero =>
    intro i G p o3 hi h hp _ _ _
    refine ⟨G, o3, h, hp, ?_⟩
    rw [show (i : Int) = q by omega]
  | succ r ih =>
    intro i G p o3 hi h hp B hs hs0
    obtain ⟨G1, a1, a2, a3⟩ := k252 (xs := xs) (n := n) (bn := 1) d h V hp (fun z => PBd_I B EVD.1.1.2.1 z (by omega))
    have s3 := stP_3 (D := D) (nb := nb) (m := m) (sg := sg) (w := w) (tb := tb) (bn := 1) p (by omega)
    obtain ⟨G', o3', b1, b2, b3⟩ := ih (i + 1) G1 _ none (by omega) a1 a2 (stP_B EVD B (by omega)) (by omega) (by omega)
    refine ⟨G', o3', b1, b2, ?_⟩
    rw [h312_53, if_neg (by omega), a3, cK9]
    show Rn (d + 7) 312 65 [some (2, 129), none, some (0, (q : Int)), none, some (0, l4), some (0, l5), some (0, (i : Int))] [] (Sg xs n G1) = _
    rw [h312_65, w1 (by omega)]
    exact b3
theorem PBd_11 {sd : Int} (B : PBd nb p) (h : 0 ≤ sd ∧ sd < 2147483648) : PBd nb (u1 p.1 11 sd, p.2) := by
  obtain ⟨b1, b2, b3, b4, b5, b6, b7, b8'⟩ := B
  exact ⟨b1, b2, b3, b4, b5, b6, h, b8'⟩
theorem k172 (K : RelK D nb m) (X : RelX D nb m) (d q : Nat) (hq : q < 1000) : ∀ (r i : Nat) (G : Sto) (sd cn : Int) (o1 : Option Vv), i + r = 10 → sim G D → WF G 0 0 1 → (0 ≤ sd ∧ sd < 2147483648) → (0 ≤ cn ∧ cn ≤ i) → ∃ G', sim G' D ∧ Rn (d + 9) 172 32 [some (2, 1), o1, some (0, (q : Int)), some (0, cn), some (1, sd), none, some (0, (i : Int))] [] (Sg xs n G) = some ((0, chP (itP D nb m (D 47) 0 0 1 q) (pC D 46) r sd cn), Sg xs n G') := by
  obtain ⟨B, h3⟩ := pC_B X.2.2.2.1
  have h8 := RelK_8 K
  intro r
  induction r with
  | zero =>
    intro i G sd cn o1 hi hs _ _ _
    refine ⟨G, hs, ?_⟩
    rw [h172_32, if_pos (by omega)]
    rfl
  | succ r ih =>
    intro i G sd cn o1 hi hs W hsd hcn
    have C0 := cpR_CR (r := 49) (q := 46) h8 (by decide) (pC_CR (D := G) (nb := nb) (r := 46))
    rw [pC_sim hs] at C0
    have C1 : CR (up (cpR G 49 46) 49 11 sd) 49 nb (u1 (pC D 46).1 11 sd, (pC D 46).2) := CR_f C0
    have s1 : sim (up (cpR G 49 46) 49 11 sd) D := fun z j x => by
      rw [up_ne (by unfold scr at x; omega)]
      exact (sim_t cpR_sim hs) z j x
    have h50 : ∀ b : Nat, b < nb → (up (cpR G 49 46) 49 11 sd) 50 b = D 47 b := fun b hb => by
      rw [up_ne (by decide)]
      have := cpR_1 (D := G) (r := 49) (q := 46) b (by omega)
      have e : cpR G 49 46 50 b = G 47 b := this
      rw [e, sim_z hs 47 (by unfold scz; omega)]
    have W1 : WF (up (cpR G 49 46) 49 11 sd) 0 0 1 := by
      unfold WF
      rw [up_ne (show ¬ (52 : Int) = 49 by decide), up_ne (show ¬ (52 : Int) = 49 by decide), up_ne (show ¬ (52 : Int) = 49 by decide), up_ne (show ¬ (52 : Int) = 49 by decide), cpR_ne (z := 52) (by decide) (by decide) (by decide)]
      exact W
    obtain ⟨G1, a1, a2, a3, a4⟩ := tr_c (xs := xs) (n := n) K X s1 C1 h50 W1 (PBd_11 B hsd) (show 0 ≤ (pC D 46).1 3 ∧ (pC D 46).1 3 ≤ 20000 by omega) d q hq
    have W2 : WF G1 0 0 1 := by
      unfold WF
      rw [a3 52 2 (by omega), a3 52 3 (by omega), a3 52 4 (by omega), a3 52 5 (by omega)]
      exact W1
    have p8' := a2.1 8 (by omega) (by omega)
    have p11 := a2.1 11 (by omega) (by omega)
    have e46 : G1 46 8 = (pC D 46).1 8 := by
      rw [sim_z a1 46 (by unfold scz; omega)]
      rfl
    have I := itP_B (w := 0) (tb := 0) (bn := 1) (EV_of K X) q (u1 (pC D 46).1 11 sd, (pC D 46).2) (PBd_11 B hsd) h3.1 (show (pC D 46).1 3 + (q : Int) ≤ 1000000 by omega)
    have I11 := I.1.2.2.2.2.2.2.1
    rw [show chP (itP D nb m (D 47) 0 0 1 q) (pC D 46) (r + 1) sd cn = chP (itP D nb m (D 47) 0 0 1 q) (pC D 46) r ((itP D nb m (D 47) 0 0 1 q (u1 (pC D 46).1 11 sd, (pC D 46).2)).1 11) (cn + bB ((pC D 46).1 8 < (itP D nb m (D 47) 0 0 1 q (u1 (pC D 46).1 11 sd, (pC D 46).2)).1 8)) from rfl]
    have st : Rn (d + 9) 172 32 [some (2, 1), o1, some (0, (q : Int)), some (0, cn), some (1, sd), none, some (0, (i : Int))] [] (Sg xs n G) = Rn (d + 9) 172 71 [some (2, 1), none, some (0, (q : Int)), some (0, cn), some (1, sd), none, some (0, (i : Int))] [] (Sg xs n G1) := by
      rw [h172_32, if_neg (by omega), c94c, cK9]
      show Rn (d + 9) 172 50 [some (2, 1), none, some (0, (q : Int)), some (0, cn), some (1, sd), none, some (0, (i : Int))] [] (Sg xs n (cpR G 49 46)) = _
      rw [h172_50, a4, cK9]
      rfl
    rw [st, h172_71, e46, p8', p11]
    by_cases c : (pC D 46).1 8 < (itP D nb m (D 47) 0 0 1 q (u1 (pC D 46).1 11 sd, (pC D 46).2)).1 8
    · obtain ⟨G', b1, b2⟩ := ih (i + 1) G1 ((itP D nb m (D 47) 0 0 1 q (u1 (pC D 46).1 11 sd, (pC D 46).2)).1 11) (cn + 1) none (by omega) a1 W2 I11 (by omega)
      refine ⟨G', b1, ?_⟩
      rw [if_neg (fun z => z c), h172_100, w1 (by omega), bB_t c, w32_idP (by omega) (by omega)]
      exact b2
    · obtain ⟨G', b1, b2⟩ := ih (i + 1) G1 ((itP D nb m (D 47) 0 0 1 q (u1 (pC D 46).1 11 sd, (pC D 46).2)).1 11) cn none (by omega) a1 W2 I11 (by omega)
      refine ⟨G', b1, ?_⟩
      rw [if_pos c, h172_100, w1 (by omega), bB_f c, Int.add_zero]
      exact b2
theorem k312b (K : RelK D nb m) (X : RelX D nb m) (d q : Nat) (hq : q < 1000) : ∀ (r i : Nat) (G : Sto) (sd cn : Int) (o1 : Option Vv), i + r = 10 → sim G D → (0 ≤ sd ∧ sd < 2147483648) → (0 ≤ cn ∧ cn ≤ i) → ∃ G', sim G' D ∧ Rn (d + 7) 312 30 [some (2, 129), o1, some (0, (q : Int)), some (0, sd), some (0, cn), some (0, (i : Int)), none] [] (Sg xs n G) = some ((0, chP (itP D nb m (D 47) 0 0 1 q) (pC D 46) r sd cn), Sg xs n G') := by
  obtain ⟨B, h3⟩ := pC_B X.2.2.2.1
  have h8 := RelK_8 K
  intro r
  induction r with
  | zero =>
    intro i G sd cn o1 hi hs _ _
    refine ⟨G, hs, ?_⟩
    rw [h312_30, if_pos (by omega)]
    rfl
  | succ r ih =>
    intro i G sd cn o1 hi hs hsd hcn
    obtain ⟨f1, f2, f3, f4⟩ := cp1 K X hs
    have R1 : RR (up (cpQ G 1 0) 145 1 sd) 1 nb 0 (u1 (pC D 46).1 11 sd, (pC D 46).2) := RR_f (i := 11) (by omega) (by omega) f2
    have s1 : sim (up (cpQ G 1 0) 145 1 sd) D := fun z j x => by
      have e : up (cpQ G 1 0) 145 1 sd z j = cpQ G 1 0 z j := by
        unfold up
        rw [if_neg (by unfold scr at x; omega)]
      rw [e]
      exact f1 z j x
    have V := RV_W (s := 1) (w := 0) (tb := 0) K X (simW_of s1) (fun b hb => by rw [up_ne (by decide)]; exact f3 b hb) (by rw [up_ne (by decide)]; exact f4) (fun z => absurd z (by decide)) (by omega)
    obtain ⟨G1, o3, a1, a2, a3⟩ := k312 (xs := xs) (n := n) d V q hq cn (i : Int) q 0 (up (cpQ G 1 0) 145 1 sd) _ (some (0, sd)) (by omega) (fun _ _ _ _ _ _ _ => rfl) R1 (PBd_11 B hsd) (show (pC D 46).1 3 + (q : Int) ≤ 1000000 by omega) h3.1
    rw [itP_D (sP_W K (simW_of s1))] at a2
    have sG := sim_t (ofQ_sim a1) s1
    have p8' : G1 150 1 = (itP D nb m (D 47) 0 0 1 q (u1 (pC D 46).1 11 sd, (pC D 46).2)).1 8 := a2.2.1 8 (by omega) (by omega)
    have p11 : G1 145 1 = (itP D nb m (D 47) 0 0 1 q (u1 (pC D 46).1 11 sd, (pC D 46).2)).1 11 := a2.2.1 11 (by omega) (by omega)
    obtain ⟨_, g1, g2, g3, g4, g5, g6, ⟨g8, g9, g10⟩, _, g11⟩ := X.2.2.2.1
    have e46 : G1 150 0 = (pC D 46).1 8 := by
      rw [sG 150 0 (by unfold scr; omega)]
      exact g8.symm
    have I := itP_B (w := 0) (tb := 0) (bn := 1) (EV_of K X) q (u1 (pC D 46).1 11 sd, (pC D 46).2) (PBd_11 B hsd) h3.1 (show (pC D 46).1 3 + (q : Int) ≤ 1000000 by omega)
    have I11 := I.1.2.2.2.2.2.2.1
    rw [show chP (itP D nb m (D 47) 0 0 1 q) (pC D 46) (r + 1) sd cn = chP (itP D nb m (D 47) 0 0 1 q) (pC D 46) r ((itP D nb m (D 47) 0 0 1 q (u1 (pC D 46).1 11 sd, (pC D 46).2)).1 11) (cn + bB ((pC D 46).1 8 < (itP D nb m (D 47) 0 0 1 q (u1 (pC D 46).1 11 sd, (pC D 46).2)).1 8)) from rfl]
    have st : Rn (d + 7) 312 30 [some (2, 129), o1, some (0, (q : Int)), some (0, sd), some (0, cn), some (0, (i : Int)), none] [] (Sg xs n G) = Rn (d + 7) 312 53 [some (2, 129), none, some (0, (q : Int)), o3, some (0, cn), some (0, (i : Int)), some (0, (q : Int))] [] (Sg xs n G1) := by
      rw [h312_30, if_neg (by omega), c229 (d + 6) 1 0 (by omega) (by omega) (by omega), cK9]
      show Rn (d + 7) 312 43 [some (2, 129), none, some (0, (q : Int)), some (0, sd), some (0, cn), some (0, (i : Int)), none] [] (Sg xs n (cpQ G 1 0)) = _
      rw [h312_43]
      exact a3
    rw [st, h312_53, if_pos (by omega), e46, p8', p11]
    by_cases c : (pC D 46).1 8 < (itP D nb m (D 47) 0 0 1 q (u1 (pC D 46).1 11 sd, (pC D 46).2)).1 8
    · obtain ⟨G', b1, b2⟩ := ih (i + 1) G1 ((itP D nb m (D 47) 0 0 1 q (u1 (pC D 46).1 11 sd, (pC D 46).2)).1 11) (cn + 1) none (by omega) sG I11 (by omega)
      refine ⟨G', b1, ?_⟩
      rw [if_neg (fun z => z c), h312_100, w1 (by omega), bB_t c, w32_idP (by omega) (by omega)]
      exact b2
    · obtain ⟨G', b1, b2⟩ := ih (i + 1) G1 ((itP D nb m (D 47) 0 0 1 q (u1 (pC D 46).1 11 sd, (pC D 46).2)).1 11) cn none (by omega) sG I11 (by omega)
      refine ⟨G', b1, ?_⟩
      rw [if_pos c, h312_100, w1 (by omega), bB_f c, Int.add_zero, w32_idP (by omega) (by omega)]
      exact b2
theorem c124 (d : Nat) : den (d + 2) 124 [(2, 52)] (Sg xs n D) = some ((9, 0), Sg xs n (up (sw0 D) 52 2 1)) := by
  rw [n124, h124_0, c123, cK9]
  show Rn (d + 1) 124 4 [some (2, 52)] [] (Sg xs n (sw0 D)) = _
  rw [h124_4]
theorem sw1_sim : sim (up (sw0 D) 52 2 1) D := fun z j x => by
  rw [up_ne (by unfold scr at x; omega)]
  exact sw0_sim z j x
theorem sw1_W : WF (up (sw0 D) 52 2 1) 0 0 1 := ⟨⟨rfl, Or.inr rfl⟩, rfl, rfl, rfl⟩
theorem ts_chance (R : Rel D) (d : Nat) (l1 l2 : Int) (hl : l1 < 2147483648) : tws xs n (d + 40) 0 172 312 [(0, l1), (0, l2)] D := by
  have R0 := R
  obtain ⟨nb, m, K, X⟩ := R
  by_cases hA : l1 < 0
  · refine tws_sim (D1 := D) (D2 := up D 129 0 0) (a := -1) R0 ?_ ?_ sim_129_0
    · rw [n172, h172_0, if_pos hA, h172_14]
    · rw [n312, h312_0, if_pos hA, h312_20]
  · by_cases hB : 1 ≤ l2 ∧ l2 ≤ 99
    · have eq : ((l2.toNat : Nat) : Int) = l2 := Int.toNat_of_nonneg (by omega)
      obtain ⟨G1, a1, a2⟩ := k172 (xs := xs) (n := n) K X (d + 30) l2.toNat (by omega) 10 0 _ l1 0 (some (0, l1)) (by omega) (sw1_sim (D := D)) sw1_W ⟨by omega, hl⟩ (by omega)
      obtain ⟨G2, b1, b2⟩ := k312b (xs := xs) (n := n) K X (d + 32) l2.toNat (by omega) 10 0 _ l1 0 (some (0, l1)) (by omega) (sim_t (sim_129_0 (v := 0)) a1) ⟨by omega, hl⟩ (by omega)
      rw [eq] at a2 b2
      refine tws_sim R0 (a := chP (itP D nb m (D 47) 0 0 1 l2.toNat) (pC D 46) 10 l1 0) ?_ ?_ b1 (D1 := G1) (D2 := G2)
      · rw [n172, h172_0, if_neg hA, c179, cK0, pR0, h172_11, bB_t hB, if_pos (by decide), c124, cK9]
        show Rn (d + 39) 172 23 [some (2, 1), some (0, l1), some (0, l2), none, none, none, none] [] (Sg xs n (up (sw0 D) 52 2 1)) = _
        rw [h172_23]
        exact a2
      · rw [n312, h312_0, if_neg hA, if_neg (by omega), if_pos (by omega)]
        exact b2
    · refine tws_sim (D1 := D) (D2 := up D 129 0 0) (a := -1) R0 ?_ ?_ sim_129_0
      · rw [n172, h172_0, if_neg hA, c179, cK0, pR0, h172_11, bB_f hB, if_neg (fun z => z rfl), h172_14]
      · rw [n312, h312_0, if_neg hA]
        by_cases q : l2 < 1
        · rw [if_pos q, h312_20]
        · rw [if_neg q, if_neg (by omega), h312_20]
end S89f
