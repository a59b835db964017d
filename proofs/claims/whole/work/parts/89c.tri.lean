/-! Trials: the class's and the reference's beside each other -/
def simW (E D : Sto) : Prop := ∀ z j : Int, ¬ scr z j → ¬ (z = 129 ∧ j = 48) → E z j = D z j
section S89c
variable {xs : Int → Int} {n : Int × Int} {F D E G : Sto} {nb m : Nat} {sg : Int → Int} {w tb bn s : Int} {p : PSt}
theorem simW_of (h : sim E D) : simW E D := fun z j h1 _ => h z j h1
theorem simW_t (h1 : simW E F) (h2 : simW F D) : simW E D := fun z j x y => (h1 z j x y).trans (h2 z j x y)
theorem simW_0 (X : RelX D nb m) (h : simW E D) (h0 : E 129 48 = 0) : sim E D := fun z j x => by
  by_cases q : z = 129 ∧ j = 48
  · rw [q.1, q.2, h0, X.2.2.2.2.2.2.1]
  · exact h z j x q
theorem simW_z (h : simW E D) (z : Int) (hz : ¬ scz z) : E z = D z := funext (fun j => h z j (ns z hz j) (by unfold scz at hz; omega))
theorem simW_bs (K : RelK D nb m) (h : simW E D) : rbs E m = rbs D m := by
  have h45 := (RelK_G K).2.2.2.2.1
  funext b
  unfold rbs
  rw [h 129 45 (by unfold scr; omega) (by omega), h45, if_pos rfl, if_pos rfl, simW_z h 135 (by unfold scz; omega), simW_z h 136 (by unfold scz; omega), simW_z h 137 (by unfold scz; omega)]
theorem sP_W (K : RelK D nb m) (h : simW E D) : sP E D m := by
  refine ⟨simW_z h 131 (by unfold scz; omega), simW_z h 134 (by unfold scz; omega), simW_bs K h, simW_z h 136 (by unfold scz; omega), simW_z h 137 (by unfold scz; omega), ?_⟩
  funext nm k
  exact lawV_D ⟨simW_z h 138 (by unfold scz; omega), simW_z h 139 (by unfold scz; omega), simW_z h 140 (by unfold scz; omega), simW_z h 141 (by unfold scz; omega)⟩
theorem EV_W (K : RelK D nb m) (h : simW E D) (V : EV D nb m sg) : EV E nb m sg := by
  obtain ⟨⟨v1, v2⟩, v3, v4, v5, v6⟩ := V
  refine ⟨⟨?_, LE_D (fun z hz => simW_z h z (by unfold scz; omega)) v2⟩, v3, ?_, ?_, ?_⟩
  · unfold RG
    rw [simW_z h 131 (by unfold scz; omega), simW_z h 136 (by unfold scz; omega), simW_z h 137 (by unfold scz; omega)]
    exact v1
  · rw [simW_bs K h, simW_z h 137 (by unfold scz; omega)]
    exact v4
  · rw [simW_z h 136 (by unfold scz; omega), simW_z h 134 (by unfold scz; omega)]
    exact v5
  · rw [simW_z h 131 (by unfold scz; omega)]
    exact v6
theorem RB_W (K : RelK D nb m) (h : simW E D) (V : RB D nb m) : RB E nb m := by
  unfold RB
  rw [simW_bs K h, simW_z h 137 (by unfold scz; omega), simW_z h 135 (by unfold scz; omega)]
  exact V
theorem CE_W (K : RelK D nb m) (X : RelX D nb m) (h : sim E D) (h50 : ∀ b : Nat, b < nb → E 50 b = D 47 b) : CE E nb m (D 47) 49 := by
  have K' := RelK_sim K h
  have X' := RelX_N (simN_of h) (RelK_8 K) X
  have C := CE_of K' X'
  have e : E 47 = D 47 := sim_z h 47 (by unfold scz; omega)
  obtain ⟨c1, c2, c3, c4, c5, c6⟩ := C
  rw [e] at c6
  exact ⟨c1, c2, c3, fun b hb => ⟨(c4 b hb).1, h50 b hb⟩, c5, c6⟩
theorem RV_W (K : RelK D nb m) (X : RelX D nb m) (h : simW E D) (h154 : ∀ b : Nat, b < nb → E 154 (8 * s + b) = D 47 b) (h48 : E 129 48 = w) (h49 : w = 2 → E 129 49 = tb) (hs : 0 ≤ s ∧ s < 23) : RV E nb m (D 47) s w tb := by
  obtain ⟨g, hB, hS, h46, h45, hRB⟩ := RelK_G K
  exact ⟨⟨RB_W K h hRB, EV_W K h (EV_of K X)⟩, ⟨by rw [h 129 46 (by unfold scr; omega) (by omega)]; exact h46, h154⟩, h48, h49, hs⟩
theorem k253 (d : Nat) (V : RV D nb m sg 1 w tb) (q : Nat) (hq : q < 1000) : ∀ (r i : Nat) (G : Sto) (p : PSt), i + r = q → ofQ 1 G D → RR G 1 nb w p → PBd nb p → p.1 3 + r ≤ 1000000 → 0 ≤ p.1 3 → ∃ G', ofQ 1 G' D ∧ RR G' 1 nb w (itP D nb m sg w tb 0 r p) ∧ Rn (d + 7) 253 2 [some (2, 129), some (0, (q : Int)), some (0, (i : Int))] [] (Sg xs n G) = some ((9, 0), Sg xs n G') := by
  have EVD := V.1.2
  intro r
  induction r with
  | zero =>
    intro i G p hi h hp _ _ _
    refine ⟨G, h, hp, ?_⟩
    rw [h253_2, if_pos (by omega)]
  | succ r ih =>
    intro i G p hi h hp B hs hs0
    obtain ⟨G1, a1, a2, a3⟩ := k252 (xs := xs) (n := n) (bn := 0) d h V hp (fun z => PBd_I B EVD.1.1.2.1 z (by omega))
    have s3 := stP_3 (D := D) (nb := nb) (m := m) (sg := sg) (w := w) (tb := tb) (bn := 0) p (by omega)
    obtain ⟨G', b1, b2, b3⟩ := ih (i + 1) G1 _ (by omega) a1 a2 (stP_B EVD B (by omega)) (by omega) (by omega)
    refine ⟨G', b1, b2, ?_⟩
    rw [h253_2, if_neg (by omega), a3, cK9]
    show Rn (d + 7) 253 13 [some (2, 129), some (0, (q : Int)), some (0, (i : Int))] [] (Sg xs n G1) = _
    rw [h253_13, w1 (by omega)]
    exact b3
theorem c253 (d q : Nat) (hq : q < 1000) (h : ofQ 1 G D) (V : RV D nb m sg 1 w tb) (hp : RR G 1 nb w p) (B : PBd nb p) (hs : 0 ≤ p.1 3 ∧ p.1 3 ≤ 20000) : ∃ G', ofQ 1 G' D ∧ RR G' 1 nb w (itP D nb m sg w tb 0 q p) ∧ den (d + 8) 253 [(2, 129), (0, (q : Int))] (Sg xs n G) = some ((9, 0), Sg xs n G') := by
  obtain ⟨G', a1, a2, a3⟩ := k253 (xs := xs) (n := n) d V q hq q 0 G p (by omega) h hp B (by omega) hs.1
  refine ⟨G', a1, a2, ?_⟩
  rw [n253, h253_0]
  exact a3
theorem ofR_sim (h : ofR 49 G D) : sim G D := fun z j x => h z j (by unfold scr at x; omega) (by unfold scr at x; omega) (by unfold scr at x; omega) (by unfold scr at x; omega) (by unfold scr at x; omega)
theorem ofQ_sim (h : ofQ 1 G D) : sim G D := fun z j x => h z j (by unfold scr at x; omega) (by unfold scr at x; omega) (by unfold scr at x; omega) (by unfold scr at x; omega) (by unfold scr at x; omega)
theorem cpR_sim : sim (cpR D 49 46) D := fun z j x => by rw [cpR_ne (by unfold scr at x; omega) (by unfold scr at x; omega) (by unfold scr at x; omega)]
theorem cpQ_ne {u v z j : Int} (h1 : ¬ (144 ≤ z ∧ z ≤ 153 ∧ j = u)) (h2 : ¬ ((z = 154 ∨ z = 155) ∧ 8 * u ≤ j ∧ j < 8 * u + 8)) : cpQ D u v z j = D z j := by
  unfold cpQ
  rw [if_neg h1, if_neg h2]
theorem cpQ_f {u v z : Int} (h1 : 144 ≤ z ∧ z ≤ 153) : cpQ D u v z u = D z v := by
  unfold cpQ
  rw [if_pos ⟨h1.1, h1.2, rfl⟩]
theorem cpQ_v {u v z b : Int} (h1 : z = 154 ∨ z = 155) (h0 : 0 ≤ b) (hb : b < 8) : cpQ D u v z (8 * u + b) = D z (8 * v + b) := by
  unfold cpQ
  rw [if_neg (by omega), if_pos ⟨h1, by omega, by omega⟩]
  congr 1
  omega
theorem cpQ_sim {v : Int} : sim (cpQ D 1 v) D := fun z j x => cpQ_ne (by unfold scr at x; omega) (by unfold scr at x; omega)
/-- a copy of the reference's run is the run -/
theorem cpQ_RR {u v : Int} (h8 : nb ≤ 8) (R : RR D v nb 0 p) : RR (cpQ D u v) u nb 0 p := by
  obtain ⟨r1, r2, r3⟩ := R
  refine ⟨Or.inr ⟨by decide, ?_⟩, fun j h1 h2 => ?_, fun b hb => ?_⟩
  · rw [cpQ_f (by omega)]
    obtain ⟨z, _⟩ | ⟨_, z⟩ := r1
    · omega
    · exact z
  · have := fc_b h1 h2
    rw [cpQ_f (by omega)]
    exact r2 j h1 h2
  · rw [cpQ_v (by omega) (by omega) (by omega)]
    exact r3 b hb
def sw0 (D : Sto) : Sto := up (up (up (up D 52 2 0) 52 3 0) 52 4 0) 52 5 (-1)
theorem sw0_ne {z : Int} (h : ¬ z = 52) : sw0 D z = D z := by
  funext j
  unfold sw0
  rw [up_ne h, up_ne h, up_ne h, up_ne h]
theorem sw0_sim : sim (sw0 D) D := fun z j x => by rw [sw0_ne (by unfold scr at x; omega)]
theorem c123 (d : Nat) : den (d + 1) 123 [(2, 52)] (Sg xs n D) = some ((9, 0), Sg xs n (sw0 D)) := by
  rw [n123, h123_0]
  rfl
theorem sw0_W : WF (sw0 D) 0 0 0 := ⟨⟨rfl, Or.inl rfl⟩, rfl, rfl, rfl⟩
/-- a trial of the class, from its start -/
theorem tr_c (K : RelK D nb m) (X : RelX D nb m) (h : sim E D) (C : CR E 49 nb p) (h50 : ∀ b : Nat, b < nb → E 50 b = D 47 b) (W : WF E w tb bn) (B : PBd nb p) (h3 : 0 ≤ p.1 3 ∧ p.1 3 ≤ 20000) (d q : Nat) (hq : q < 1000) : ∃ G', sim G' D ∧ CR G' 49 nb (itP D nb m (D 47) w tb bn q p) ∧ (∀ z j : Int, z = 50 ∨ z = 52 → G' z j = E z j) ∧ den (d + 9) 126 [(2, 52), (2, 49), (0, (q : Int))] (Sg xs n E) = some ((9, 0), Sg xs n G') := by
  obtain ⟨G', a1, a2, a3⟩ := c126b (xs := xs) (n := n) (D := E) (G := E) d q hq (fun _ _ _ _ _ _ _ => rfl) (CE_W K X h h50) W C (fun z => PBd_I B (RelK_8 K) z (by omega)) h3
  rw [itP_D (sP_W K (simW_of h))] at a2
  exact ⟨G', sim_t (ofR_sim a1) h, a2, fun z j hz => a1 z j (by omega) (by omega) (by omega) (by omega) (by omega), a3⟩
/-- a trial of the reference, from its start -/
theorem tr_r (K : RelK D nb m) (X : RelX D nb m) (h : simW E D) (R : RR E 1 nb w p) (h154 : ∀ b : Nat, b < nb → E 154 (8 * 1 + b) = D 47 b) (h48 : E 129 48 = w) (h49 : w = 2 → E 129 49 = tb) (B : PBd nb p) (h3 : 0 ≤ p.1 3 ∧ p.1 3 ≤ 20000) (d q : Nat) (hq : q < 1000) : ∃ G', simW G' D ∧ RR G' 1 nb w (itP D nb m (D 47) w tb 0 q p) ∧ (G' 154 = E 154 ∧ G' 129 48 = w) ∧ den (d + 8) 253 [(2, 129), (0, (q : Int))] (Sg xs n E) = some ((9, 0), Sg xs n G') := by
  have V := RV_W (s := 1) K X h h154 h48 h49 (by omega)
  obtain ⟨G', a1, a2, a3⟩ := c253 (xs := xs) (n := n) (D := E) (G := E) d q hq (fun _ _ _ _ _ _ _ => rfl) V R B h3
  rw [itP_D (sP_W K h)] at a2
  exact ⟨G', simW_t (simW_of (ofQ_sim a1)) h, a2, ⟨ofQ_z a1 154 (by omega), by rw [ofQ_129 a1 48 (by decide)]; exact h48⟩, a3⟩
theorem cpR_CR (h8 : nb ≤ 8) {r q : Int} (h : ¬ q + 2 = r + 1) (C : CR D q nb p) : CR (cpR D r q) r nb p := ⟨fun j h1 h2 => (cpR_0 j h1 h2).trans (C.1 j h1 h2), fun b hb => (cpR_2 h b (by omega)).trans (C.2 b hb)⟩
end S89c
