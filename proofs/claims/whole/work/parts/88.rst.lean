/-! Steps: the reference's run beside the step that is told apart from it -/
def fc (j : Int) : Int := if j = 3 then 144 else if j = 11 then 145 else 142 + j
def RR (G : Sto) (s : Int) (nb : Nat) (w : Int) (p : PSt) : Prop := ((w = 1 ∧ p.1 2 = 0) ∨ (¬ w = 1 ∧ G 153 s = p.1 2)) ∧ (∀ j : Int, 3 ≤ j → j ≤ 11 → G (fc j) s = p.1 j) ∧ ∀ b : Nat, b < nb → G 155 (8 * s + b) = p.2 b
def ofQ (s : Int) (G D : Sto) : Prop := ∀ z j : Int, ¬ ((144 ≤ z ∧ z ≤ 152) ∧ j = s) → ¬ (z = 155 ∧ 8 * s ≤ j ∧ j < 8 * s + 8) → ¬ z = 142 → ¬ z = 143 → ¬ (z = 129 ∧ j = 29) → G z j = D z j
def RV (D : Sto) (nb m : Nat) (sg : Int → Int) (s w tb : Int) : Prop := (RB D nb m ∧ EV D nb m sg) ∧ (∀ b : Nat, b < nb → rsg D s b = sg b) ∧ D 129 48 = w ∧ (w = 2 → D 129 49 = tb) ∧ (0 ≤ s ∧ s < 23)
section S88
variable {xs : Int → Int} {n : Int × Int} {D G : Sto} {nb m : Nat} {sg : Int → Int} {s w tb bn : Int} {p : PSt}
theorem fc_b {j : Int} (h1 : 3 ≤ j) (h2 : j ≤ 11) : 144 ≤ fc j ∧ fc j ≤ 152 := by
  unfold fc
  (repeat' split) <;> omega
theorem fc_i {i j : Int} (h1 : 3 ≤ j) (h2 : j ≤ 11) (h3 : 3 ≤ i) (h4 : i ≤ 11) (h : fc j = fc i) : j = i := by
  unfold fc at h
  (repeat' split at h) <;> omega
theorem RR_f {i v : Int} (h3 : 3 ≤ i) (h4 : i ≤ 11) (C : RR G s nb w p) : RR (up G (fc i) s v) s nb w (u1 p.1 i v, p.2) := by
  have b := fc_b h3 h4
  obtain ⟨c1, c2, c3⟩ := C
  refine ⟨?_, fun j h1 h2 => ?_, fun c hc => ?_⟩
  · show (w = 1 ∧ u1 p.1 i v 2 = 0) ∨ (¬ w = 1 ∧ up G (fc i) s v 153 s = u1 p.1 i v 2)
    rw [u1_ne (by omega), up_ne (by omega)]
    exact c1
  · show up G (fc i) s v (fc j) s = u1 p.1 i v j
    by_cases q : j = i
    · rw [q, up_at, u1_at]
    · rw [u1_ne q, up_ne (fun z => q (fc_i h1 h2 h3 h4 z))]
      exact c2 j h1 h2
  · show up G (fc i) s v 155 (8 * s + c) = p.2 c
    rw [up_ne (by omega)]
    exact c3 c hc
theorem RR_v {b v : Int} (C : RR G s nb w p) : RR (up G 155 (8 * s + b) v) s nb w (p.1, u1 p.2 b v) := by
  obtain ⟨c1, c2, c3⟩ := C
  refine ⟨?_, fun j h1 h2 => ?_, fun c hc => ?_⟩
  · show (w = 1 ∧ p.1 2 = 0) ∨ (¬ w = 1 ∧ up G 155 (8 * s + b) v 153 s = p.1 2)
    rw [up_ne (by omega)]
    exact c1
  · show up G 155 (8 * s + b) v (fc j) s = p.1 j
    have := fc_b h1 h2
    rw [up_ne (by omega)]
    exact c2 j h1 h2
  · show up G 155 (8 * s + b) v 155 (8 * s + c) = u1 p.2 b v c
    by_cases q : (c : Int) = b
    · rw [q, up_at, u1_at]
    · rw [u1_ne q, up_ni (by omega)]
      exact c3 c hc
def ofM (G D : Sto) : Prop := ∀ z j : Int, ¬ z = 142 → ¬ z = 143 → ¬ (z = 129 ∧ j = 29) → G z j = D z j
theorem RR_M {G' : Sto} (h : ofM G' G) (C : RR G s nb w p) : RR G' s nb w p := by
  obtain ⟨c1, c2, c3⟩ := C
  refine ⟨?_, fun j h1 h2 => ?_, fun c hc => ?_⟩
  · rw [h 153 s (by omega) (by omega) (by omega)]
    exact c1
  · have := fc_b h1 h2
    rw [h (fc j) s (by omega) (by omega) (by omega)]
    exact c2 j h1 h2
  · rw [h 155 _ (by omega) (by omega) (by omega)]
    exact c3 c hc
theorem ofQ_M {G' : Sto} (h : ofM G' G) (h2 : ofQ s G D) : ofQ s G' D := fun z j x1 x2 x3 x4 x5 => (h z j x3 x4 x5).trans (h2 z j x1 x2 x3 x4 x5)
theorem ofQ_f {i v : Int} (h3 : 3 ≤ i) (h4 : i ≤ 11) (h : ofQ s G D) : ofQ s (up G (fc i) s v) D := fun z j x1 x2 x3 x4 x5 => by
  have b := fc_b h3 h4
  have : up G (fc i) s v z j = G z j := by
    unfold up
    rw [if_neg (by omega)]
  rw [this]
  exact h z j x1 x2 x3 x4 x5
theorem ofQ_v {b v : Int} (h0 : 0 ≤ b) (h1 : b < 8) (h : ofQ s G D) : ofQ s (up G 155 (8 * s + b) v) D := fun z j x1 x2 x3 x4 x5 => by
  have : up G 155 (8 * s + b) v z j = G z j := by
    unfold up
    rw [if_neg (by omega)]
  rw [this]
  exact h z j x1 x2 x3 x4 x5
theorem ofQ_z (h : ofQ s G D) (z : Int) (hz : (130 ≤ z ∧ z ≤ 141) ∨ z = 153 ∨ z = 154 ∨ 156 ≤ z) : G z = D z := funext (fun j => h z j (by omega) (by omega) (by omega) (by omega) (by omega))
theorem ofQ_129 (h : ofQ s G D) (j : Int) (hj : ¬ j = 29) : G 129 j = D 129 j := h 129 j (by omega) (by omega) (by omega) (by omega) (by omega)
theorem ofQ_m2 (h : ofQ s G D) : m2 G D := ⟨⟨ofQ_z h 131 (by omega), ofQ_z h 135 (by omega), ofQ_z h 136 (by omega), ofQ_z h 137 (by omega), ofQ_z h 154 (by omega), ofQ_z h 156 (by omega), ofQ_129 h 45 (by decide)⟩, ofQ_129 h 46 (by decide), ofQ_129 h 47 (by decide)⟩
theorem rsg_i (V : RV D nb m sg s w tb) {b : Int} (h0 : 0 ≤ b) (h1 : b < nb) : rsg D s b = sg b := by
  have := V.2.1 b.toNat (by omega)
  rw [Int.toNat_of_nonneg h0] at this
  exact this
theorem rdf_P (V : RV D nb m sg s w tb) {b : Int} (h0 : 0 ≤ b) (h1 : b < nb) : rdf D m s b = dfP D m sg b := by
  have r := V.1.2.2.2.1 b.toNat (by omega)
  rw [Int.toNat_of_nonneg h0] at r
  unfold rdf dfP
  rw [rsg_i V h0 h1]
  by_cases q : rbs D m b = -1
  · rw [if_pos q, if_pos q]
  · rw [if_neg q, if_neg q, rsg_i V (by omega) r.2.1]
theorem raj_P (V : RV D nb m sg s w tb) {e : Nat} (he : e < m) : raj D m s e = ajP D m sg e := by
  obtain ⟨f1, f2⟩ := V.1.2.1.1.2.2.2.2 e he
  have hp := cnt_pos (f := D 137) (v := D 137 e) (k := e) m he rfl
  have r := V.1.2.2.2.1 (D 137 e).toNat (by omega)
  rw [Int.toNat_of_nonneg f2.1] at r
  unfold raj ajP
  rw [rsg_i V (r.2.2 hp) r.2.1, rsg_i V f1.1 f1.2]
theorem k242 (d : Nat) (b : Int) (h : ofQ s G D) (V : RV D nb m sg s w tb) (h0 : 0 ≤ b) (h1 : b < nb) : den (d + 1) 242 [(2, 129), (0, b)] (Sg xs n G) = some ((0, wkP D w tb b), Sg xs n G) := by
  have h8 := V.1.2.1.1.2.1
  rw [n242, h242_0, ofQ_129 h 48 (by decide), ofQ_129 h 49 (by decide), V.2.2.1]
  simp only [h242_20, h242_26, inb_t h0 (show b < 16 by omega), if_true, ofQ_z h 134 (by omega)]
  unfold wkP
  by_cases q : w = 2
  · rw [if_neg (fun z => z q), V.2.2.2.1 q]
    by_cases q2 : b = tb
    · rw [if_neg (fun z => z q2), if_pos ⟨q, q2⟩]
    · rw [if_pos q2, if_neg (fun z => q2 z.2)]
  · rw [if_pos q, if_neg (fun z => q z.1)]
theorem k243 (d : Nat) (b : Int) (h : ofQ s G D) (V : RV D nb m sg s w tb) (hp : RR G s nb w p) (h0 : 0 ≤ b) (h1 : b < nb) : ∃ G', (∀ z j : Int, ¬ z = 142 → G' z j = G z j) ∧ (∀ j : Nat, j < 7 → G' 142 j = nmP D m w tb p b j) ∧ den (d + 2) 243 [(2, 129), (0, s), (0, b)] (Sg xs n G) = some ((9, 0), Sg xs n G') := by
  have h8 := V.1.2.1.1.2.1
  have h16 := V.1.2.1.1.2.2.2.1
  obtain ⟨s0, s1⟩ := V.2.2.2.2
  have tv := hp.2.2 b.toNat (by omega)
  rw [Int.toNat_of_nonneg h0] at tv
  have f5 : G 147 s = p.1 5 := hp.2.1 5 (by omega) (by omega)
  have f7 : G 149 s = p.1 7 := hp.2.1 7 (by omega) (by omega)
  have f3 : G 144 s = p.1 3 := hp.2.1 3 (by omega) (by omega)
  have ew : w32 (w32 (8 * s) + b) = 8 * s + b := by rw [w32_id (z := 8 * s) (by omega) (by omega), w32_id (by omega) (by omega)]
  have ne : ∀ (E : Sto) (a0 a1 a2 a3 : Int) (z j : Int), ¬ z = 142 → (up (up (up (up E 142 0 a0) 142 1 a1) 142 2 a2) 142 3 a3) z j = E z j := fun E a0 a1 a2 a3 z j hz => by rw [up_ne hz, up_ne hz, up_ne hz, up_ne hz]
  have hg : (up (up (up (up G 142 0 (wkP D w tb b)) 142 1 (p.2 b)) 142 2 (p.1 5)) 142 3 b) 131 1 = m := by
    rw [ne _ _ _ _ _ _ _ (by decide), ofQ_z h 131 (by omega)]
    exact V.1.2.1.1.2.2.1
  have hg2 : (up (up (up (up G 142 0 (wkP D w tb b)) 142 1 (p.2 b)) 142 2 (p.1 5)) 142 3 b) 136 = D 136 := by
    funext j
    rw [ne _ _ _ _ _ _ _ (by decide), ofQ_z h 136 (by omega)]
  have e235 := c235 (xs := xs) (n := n) (D := up (up (up (up G 142 0 (wkP D w tb b)) 142 1 (p.2 b)) 142 2 (p.1 5)) 142 3 b) d b m hg h16
  rw [hg2] at e235
  refine ⟨up (up (up (up (up (up (up G 142 0 (wkP D w tb b)) 142 1 (p.2 b)) 142 2 (p.1 5)) 142 3 b) 142 4 (cntE (D 136) b m)) 142 5 (p.1 7)) 142 6 (p.1 3), fun z j hz => ?_, fun j hj => ?_, ?_⟩
  · rw [up_ne hz, up_ne hz, up_ne hz, up_ne hz, up_ne hz, up_ne hz, up_ne hz]
  · have : j = 0 ∨ j = 1 ∨ j = 2 ∨ j = 3 ∨ j = 4 ∨ j = 5 ∨ j = 6 := by omega
    obtain q | q | q | q | q | q | q := this <;> (rw [q]; rfl)
  · rw [n243, h243_0, k242 d b h V h0 h1, cK0, pR0, h243_10, if_pos (by rfl), ew, if_pos (inb_t (by omega) (by omega)), if_pos (inb_t s0 s1), tv, f5, e235, cK0, pR0, h243_61, if_pos (by rfl), if_pos (inb_t s0 s1), if_pos (inb_t s0 s1), ne _ _ _ _ _ _ _ (by decide), ne _ _ _ _ _ _ _ (by decide), f7, f3]
/-- a law is worked out, if there is one -/
theorem kLaw (d k : Nat) (b : Int) (hk : k ≤ 2) (h : ofQ s G D) (V : RV D nb m sg s w tb) (P : PI nb p) (h0 : 0 ≤ b) (h1 : b < nb) (hn : ∀ j : Nat, j < 7 → G 142 j = nmP D m w tb p b j) : (lwP D m w tb k p b = none ∧ den (d + 4) 225 [(2, 129), (0, (k : Int))] (Sg xs n G) = some ((0, 0), Sg xs n G)) ∨ (den (d + 4) 225 [(2, 129), (0, (k : Int))] (Sg xs n G) = some ((0, 1), Sg xs n G) ∧ ∃ G', ofV G' G ∧ ((lwP D m w tb k p b = none ∧ den (d + 4) 224 [(2, 129), (0, (k : Int))] (Sg xs n G) = some ((0, 0), Sg xs n G')) ∨ (lwP D m w tb k p b = some (G' 143 0) ∧ inL (G' 143 0) ∧ den (d + 4) 224 [(2, 129), (0, (k : Int))] (Sg xs n G) = some ((0, 1), Sg xs n G')))) := by
  have EVD := V.1.2
  have nml := nmP_l (w := w) (tb := tb) EVD P h0 h1
  have L := LE_k EVD.1.2 hk
  have fl : G 138 = D 138 ∧ G 139 = D 139 ∧ G 140 = D 140 ∧ G 141 = D 141 := ⟨ofQ_z h 138 (by omega), ofQ_z h 139 (by omega), ofQ_z h 140 (by omega), ofQ_z h 141 (by omega)⟩
  have el : lawV G (G 142) k = lwP D m w tb k p b := by
    rw [lawV_D fl]
    exact lawV_ex L hn
  have e225 := c225 (xs := xs) (n := n) (D := G) (d + 3) k hk
  rw [fl.1, fl.2.1] at e225
  by_cases q : D 138 k < D 139 k
  · right
    rw [bB_t q] at e225
    refine ⟨e225, ?_⟩
    -- the class's rows aren't looked at here
    have L' : LE1 (fun z j => if 41 ≤ z ∧ z ≤ 44 then D z j else G z j) k := by
      have := L
      unfold LE1 at this ⊢
      simp only [show (41 : Int) ≤ 43 ∧ (43 : Int) ≤ 44 from by decide, show (41 : Int) ≤ 44 ∧ (44 : Int) ≤ 44 from by decide, show (41 : Int) ≤ 41 ∧ (41 : Int) ≤ 44 from by decide, show (41 : Int) ≤ 42 ∧ (42 : Int) ≤ 44 from by decide, show ¬ ((41 : Int) ≤ 138 ∧ (138 : Int) ≤ 44) from by decide, show ¬ ((41 : Int) ≤ 139 ∧ (139 : Int) ≤ 44) from by decide, show ¬ ((41 : Int) ≤ 140 ∧ (140 : Int) ≤ 44) from by decide, show ¬ ((41 : Int) ≤ 141 ∧ (141 : Int) ≤ 44) from by decide, if_true, if_false, and_self, fl.1, fl.2.1, fl.2.2.1, fl.2.2.2]
      exact this
    have LG : LE1 G k ∨ True := Or.inr trivial
    obtain ⟨G', a1, a2⟩ := c224' (xs := xs) (n := n) (D := G) d k hk (by rw [fl.1, fl.2.1]; exact L.2.1) (by
        intro i i1 i2
        rw [fl.1] at i1
        rw [fl.2.1] at i2
        have := L.2.2.1 i i1 i2
        rw [fl.2.2.1, fl.2.2.2]
        exact ⟨_, _, this⟩) (by rw [fl.1, fl.2.1, fl.2.2.1, fl.2.2.2]; exact L.2.2.2) (by rw [fl.1, fl.2.1]; exact q) (fun j hj => by rw [hn j hj]; exact nml j)
    refine ⟨G', a1, ?_⟩
    rw [el] at a2
    exact a2
  · left
    rw [bB_f q] at e225
    refine ⟨?_, e225⟩
    unfold lwP lawV
    rw [if_neg q]
end S88
