/-! Steps: the reference's run beside the step that is told apart from it -/
def fc (j : Int) : Int := if j = 3 then 144 else if j = 11 then 145 else 142 + j
def RR (G : Sto) (s : Int) (nb : Nat) (w : Int) (p : PSt) : Prop := ((w = 1 ∧ p.1 2 = 0) ∨ (¬ w = 1 ∧ G 153 s = p.1 2)) ∧ (∀ j : Int, 3 ≤ j → j ≤ 11 → G (fc j) s = p.1 j) ∧ ∀ b : Nat, b < nb → G 155 (8 * s + b) = p.2 b
def ofQ (s : Int) (G D : Sto) : Prop := ∀ z j : Int, ¬ ((144 ≤ z ∧ z ≤ 152) ∧ j = s) → ¬ (z = 155 ∧ 8 * s ≤ j ∧ j < 8 * s + 8) → ¬ z = 142 → ¬ z = 143 → ¬ (z = 129 ∧ j = 29) → G z j = D z j
def RV (D : Sto) (nb m : Nat) (sg : Int → Int) (s w tb : Int) : Prop := (RB D nb m ∧ EV D nb m sg) ∧ (D 129 46 = -1 ∧ ∀ b : Nat, b < nb → D 154 (8 * s + b) = sg b) ∧ D 129 48 = w ∧ (w = 2 → D 129 49 = tb) ∧ (0 ≤ s ∧ s < 23)
section S88
variable {xs : Int → Int} {n : Int × Int} {D G : Sto} {nb m : Nat} {sg : Int → Int} {s w tb bn : Int} {p : PSt}
theorem fc_b {j : Int} (h1 : 3 ≤ j) (h2 : j ≤ 11) : 144 ≤ fc j ∧ fc j ≤ 152 := by
  unfold fc
  (repeat' split) <;> omega
theorem fc_i {i j : Int} (h1 : 3 ≤ j) (h2 : j ≤ 11) (h3 : 3 ≤ i) (h4 : i ≤ 11) (h : fc j = fc i) : j = i := by
  unfold fc at h
  (repeat' split at h) <;> omega
theorem RR_f {i v : Int} (h3 : 3 ≤ i) (h4 : i ≤ 11) (C : RR G s nb w p) : RR (up G (fc i) s v) s nb w (u1 p.1 i v, p.2) := by
  have b := fc_b h3 h4
  obtain ⟨c1, c2, c3⟩ := C
  refine ⟨?_, fun j h1 h2 => ?_, fun c hc => ?_⟩
  · show (w = 1 ∧ u1 p.1 i v 2 = 0) ∨ (¬ w = 1 ∧ up G (fc i) s v 153 s = u1 p.1 i v 2)
    rw [u1_ne (by omega), up_ne (by omega)]
    exact c1
  · show up G (fc i) s v (fc j) s = u1 p.1 i v j
    by_cases q : j = i
    · rw [q, up_at, u1_at]
    · rw [u1_ne q, up_ne (fun z => q (fc_i h1 h2 h3 h4 z))]
      exact c2 j h1 h2
  · show up G (fc i) s v 155 (8 * s + c) = p.2 c
    rw [up_ne (by omega)]
    exact c3 c hc
theorem RR_v {b v : Int} (C : RR G s nb w p) : RR (up G 155 (8 * s + b) v) s nb w (p.1, u1 p.2 b v) := by
  obtain ⟨c1, c2, c3⟩ := C
  refine ⟨?_, fun j h1 h2 => ?_, fun c hc => ?_⟩
  · show (w = 1 ∧ p.1 2 = 0) ∨ (¬ w = 1 ∧ up G 155 (8 * s + b) v 153 s = p.1 2)
    rw [up_ne (by omega)]
    exact c1
  · show up G 155 (8 * s + b) v (fc j) s = p.1 j
    have := fc_b h1 h2
    rw [up_ne (by omega)]
    exact c2 j h1 h2
  · show up G 155 (8 * s + b) v 155 (8 * s + c) = u1 p.2 b v c
    by_cases q : (c : Int) = b
    · rw [q, up_at, u1_at]
    · rw [u1_ne q, up_ni (by omega)]
      exact c3 c hc
def ofM (G D : Sto) : Prop := ∀ z j : Int, ¬ z = 142 → ¬ z = 143 → ¬ (z = 129 ∧ j = 29) → G z j = D z j
theorem RR_M {G' : Sto} (h : ofM G' G) (C : RR G s nb w p) : RR G' s nb w p := by
  obtain ⟨c1, c2, c3⟩ := C
  refine ⟨?_, fun j h1 h2 => ?_, fun c hc => ?_⟩
  · rw [h 153 s (by omega) (by omega) (by omega)]
    exact c1
  · have := fc_b h1 h2
    rw [h (fc j) s (by omega) (by omega) (by omega)]
    exact c2 j h1 h2
  · rw [h 155 _ (by omega) (by omega) (by omega)]
    exact c3 c hc
theorem ofQ_M {G' : Sto} (h : ofM G' G) (h2 : ofQ s G D) : ofQ s G' D := fun z j x1 x2 x3 x4 x5 => (h z j x3 x4 x5).trans (h2 z j x1 x2 x3 x4 x5)
theorem ofQ_f {i v : Int} (h3 : 3 ≤ i) (h4 : i ≤ 11) (h : ofQ s G D) : ofQ s (up G (fc i) s v) D := fun z j x1 x2 x3 x4 x5 => by
  have b := fc_b h3 h4
  have : up G (fc i) s v z j = G z j := by
    unfold up
    rw [if_neg (by omega)]
  rw [this]
  exact h z j x1 x2 x3 x4 x5
theorem ofQ_v {b v : Int} (h0 : 0 ≤ b) (h1 : b < 8) (h : ofQ s G D) : ofQ s (up G 155 (8 * s + b) v) D := fun z j x1 x2 x3 x4 x5 => by
  have : up G 155 (8 * s + b) v z j = G z j := by
    unfold up
    rw [if_neg (by omega)]
  rw [this]
  exact h z j x1 x2 x3 x4 x5
theorem ofQ_z (h : ofQ s G D) (z : Int) (hz : (130 ≤ z ∧ z ≤ 141) ∨ z = 153 ∨ z = 154 ∨ 156 ≤ z) : G z = D z := funext (fun j => h z j (by omega) (by omega) (by omega) (by omega) (by omega))
theorem ofQ_129 (h : ofQ s G D) (j : Int) (hj : ¬ j = 29) : G 129 j = D 129 j := h 129 j (by omega) (by omega) (by omega) (by omega) (by omega)
theorem ofQ_m2 (h : ofQ s G D) : m2 G D := ⟨⟨ofQ_z h 131 (by omega), ofQ_z h 135 (by omega), ofQ_z h 136 (by omega), ofQ_z h 137 (by omega), ofQ_z h 154 (by omega), ofQ_z h 156 (by omega), ofQ_129 h 45 (by decide)⟩, ofQ_129 h 46 (by decide), ofQ_129 h 47 (by decide)⟩
theorem rsg_i (V : RV D nb m sg s w tb) {b : Int} (h0 : 0 ≤ b) (h1 : b < nb) : rsg D s b = sg b := by
  have := V.2.1.2 b.toNat (by omega)
  rw [Int.toNat_of_nonneg h0] at this
  unfold rsg
  rw [V.2.1.1, if_neg (by omega)]
  exact this
theorem rdf_P (V : RV D nb m sg s w tb) {b : Int} (h0 : 0 ≤ b) (h1 : b < nb) : rdf D m s b = dfP D m sg b := by
  have r := V.1.2.2.2.1 b.toNat (by omega)
  rw [Int.toNat_of_nonneg h0] at r
  unfold rdf dfP
  rw [rsg_i V h0 h1]
  by_cases q : rbs D m b = -1
  · rw [if_pos q, if_pos q]
  · rw [if_neg q, if_neg q, rsg_i V (by omega) r.2.1]
theorem raj_P (V : RV D nb m sg s w tb) {e : Nat} (he : e < m) : raj D m s e = ajP D m sg e := by
  obtain ⟨f1, f2⟩ := V.1.2.1.1.2.2.2.2 e he
  have hp := cnt_pos (f := D 137) (v := D 137 e) (k := e) m he rfl
  have r := V.1.2.2.2.1 (D 137 e).toNat (by omega)
  rw [Int.toNat_of_nonneg f2.1] at r
  unfold raj ajP
  rw [rsg_i V (r.2.2 hp) r.2.1, rsg_i V f1.1 f1.2]
theorem k242 (d : Nat) (b : Int) (h : ofQ s G D) (V : RV D nb m sg s w tb) (h0 : 0 ≤ b) (h1 : b < nb) : den (d + 1) 242 [(2, 129), (0, b)] (Sg xs n G) = some ((0, wkP D w tb b), Sg xs n G) := by
  have h8 := V.1.2.1.1.2.1
  rw [n242, h242_0, ofQ_129 h 48 (by decide), ofQ_129 h 49 (by decide), V.2.2.1]
  simp only [h242_20, h242_26, inb_t h0 (show b < 16 by omega), if_true, ofQ_z h 134 (by omega)]
  unfold wkP
  by_cases q : w = 2
  · rw [if_neg (fun z => z q), V.2.2.2.1 q]
    by_cases q2 : b = tb
    · rw [if_neg (fun z => z q2), if_pos ⟨q, q2⟩]
    · rw [if_pos q2, if_neg (fun z => q2 z.2)]
  · rw [if_pos q, if_neg (fun z => q z.1)]
theorem k243 (d : Nat) (b : Int) (h : ofQ s G D) (V : RV D nb m sg s w tb) (hp : RR G s nb w p) (h0 : 0 ≤ b) (h1 : b < nb) : ∃ G', (∀ z j : Int, ¬ z = 142 → G' z j = G z j) ∧ (∀ j : Nat, j < 7 → G' 142 j = nmP D m w tb p b j) ∧ den (d + 2) 243 [(2, 129), (0, s), (0, b)] (Sg xs n G) = some ((9, 0), Sg xs n G') := by
  have h8 := V.1.2.1.1.2.1
  have h16 := V.1.2.1.1.2.2.2.1
  obtain ⟨s0, s1⟩ := V.2.2.2.2
  have tv := hp.2.2 b.toNat (by omega)
  rw [Int.toNat_of_nonneg h0] at tv
  have f5 : G 147 s = p.1 5 := hp.2.1 5 (by omega) (by omega)
  have f7 : G 149 s = p.1 7 := hp.2.1 7 (by omega) (by omega)
  have f3 : G 144 s = p.1 3 := hp.2.1 3 (by omega) (by omega)
  have ew : w32 (w32 (8 * s) + b) = 8 * s + b := by rw [w32_idP (z := 8 * s) (by omega) (by omega), w32_idP (by omega) (by omega)]
  have ne : ∀ (E : Sto) (a0 a1 a2 a3 : Int) (z j : Int), ¬ z = 142 → (up (up (up (up E 142 0 a0) 142 1 a1) 142 2 a2) 142 3 a3) z j = E z j := fun E a0 a1 a2 a3 z j hz => by rw [up_ne hz, up_ne hz, up_ne hz, up_ne hz]
  have hg : (up (up (up (up G 142 0 (wkP D w tb b)) 142 1 (p.2 b)) 142 2 (p.1 5)) 142 3 b) 131 1 = m := by
    rw [ne _ _ _ _ _ _ _ (by decide), ofQ_z h 131 (by omega)]
    exact V.1.2.1.1.2.2.1
  have hg2 : (up (up (up (up G 142 0 (wkP D w tb b)) 142 1 (p.2 b)) 142 2 (p.1 5)) 142 3 b) 136 = D 136 := by
    funext j
    rw [ne _ _ _ _ _ _ _ (by decide), ofQ_z h 136 (by omega)]
  have e235 := c235 (xs := xs) (n := n) (D := up (up (up (up G 142 0 (wkP D w tb b)) 142 1 (p.2 b)) 142 2 (p.1 5)) 142 3 b) d b m hg h16
  rw [hg2] at e235
  refine ⟨up (up (up (up (up (up (up G 142 0 (wkP D w tb b)) 142 1 (p.2 b)) 142 2 (p.1 5)) 142 3 b) 142 4 (cntE (D 136) b m)) 142 5 (p.1 7)) 142 6 (p.1 3), fun z j hz => ?_, fun j hj => ?_, ?_⟩
  · rw [up_ne hz, up_ne hz, up_ne hz, up_ne hz, up_ne hz, up_ne hz, up_ne hz]
  · have : j = 0 ∨ j = 1 ∨ j = 2 ∨ j = 3 ∨ j = 4 ∨ j = 5 ∨ j = 6 := by omega
    obtain q | q | q | q | q | q | q := this <;> (rw [q]; rfl)
  · rw [n243, h243_0, k242 d b h V h0 h1, cK0, pR0, h243_10, if_pos (by rfl), ew, if_pos (inb_t (by omega) (by omega)), if_pos (inb_t s0 s1), tv, f5, e235, cK0, pR0, h243_61, if_pos (by rfl), if_pos (inb_t s0 s1), if_pos (inb_t s0 s1), ne _ _ _ _ _ _ _ (by decide), ne _ _ _ _ _ _ _ (by decide), f7, f3]
/-- a law is worked out, if there is one -/
theorem kLaw (d k : Nat) (b : Int) (hk : k ≤ 2) (h : ofQ s G D) (V : RV D nb m sg s w tb) (P : PI nb p) (h0 : 0 ≤ b) (h1 : b < nb) (hn : ∀ j : Nat, j < 7 → G 142 j = nmP D m w tb p b j) : (lwP D m w tb k p b = none ∧ den (d + 4) 225 [(2, 129), (0, (k : Int))] (Sg xs n G) = some ((0, 0), Sg xs n G)) ∨ (den (d + 4) 225 [(2, 129), (0, (k : Int))] (Sg xs n G) = some ((0, 1), Sg xs n G) ∧ ∃ G', ofV G' G ∧ ((lwP D m w tb k p b = none ∧ den (d + 4) 224 [(2, 129), (0, (k : Int))] (Sg xs n G) = some ((0, 0), Sg xs n G')) ∨ (lwP D m w tb k p b = some (G' 143 0) ∧ inL (G' 143 0) ∧ den (d + 4) 224 [(2, 129), (0, (k : Int))] (Sg xs n G) = some ((0, 1), Sg xs n G')))) := by
  have EVD := V.1.2
  have nml := nmP_l (w := w) (tb := tb) EVD P h0 h1
  have L := LE_k EVD.1.2 hk
  have fl : G 138 = D 138 ∧ G 139 = D 139 ∧ G 140 = D 140 ∧ G 141 = D 141 := ⟨ofQ_z h 138 (by omega), ofQ_z h 139 (by omega), ofQ_z h 140 (by omega), ofQ_z h 141 (by omega)⟩
  have el : lawV G (G 142) k = lwP D m w tb k p b := by
    rw [lawV_D fl]
    exact lawV_ex L hn
  have e225 := c225 (xs := xs) (n := n) (D := G) (d + 3) k hk
  rw [fl.1, fl.2.1] at e225
  by_cases q : D 138 k < D 139 k
  · right
    rw [bB_t q] at e225
    refine ⟨e225, ?_⟩
    have fz : ∀ z : Int, (41 ≤ z ∧ z ≤ 44) ∨ (138 ≤ z ∧ z ≤ 141) → G z = D z := fun z hz => funext (fun j => h z j (by omega) (by omega) (by omega) (by omega) (by omega))
    obtain ⟨G', a1, a2⟩ := c224 (xs := xs) (n := n) (D := G) d k hk (LE_k (LE_D fz EVD.1.2) hk) (by rw [fl.1, fl.2.1]; exact q) (fun j hj => by rw [hn j hj]; exact nml j)
    refine ⟨G', a1, ?_⟩
    rw [el] at a2
    exact a2
  · left
    rw [bB_f q] at e225
    refine ⟨?_, e225⟩
    unfold lwP lawV
    rw [if_neg q]
theorem u1_c {f : Int → Int} {i j x y : Int} (h : ¬ i = j) : u1 (u1 f i x) j y = u1 (u1 f j y) i x := by
  funext k
  unfold u1
  by_cases q : k = j
  · rw [if_pos q, if_neg (by omega), if_pos q]
  · rw [if_neg q]
    by_cases q2 : k = i
    · rw [if_pos q2, if_pos q2]
    · rw [if_neg q2, if_neg q2, if_neg q]
theorem ofV_M {G' : Sto} (h : ofV G' G) : ofM G' G := fun z j _ x2 x3 => h z j x2 x3
theorem ofM_t {G' F : Sto} (h1 : ofM G' F) (h2 : ofM F G) : ofM G' G := fun z j x1 x2 x3 => (h1 z j x1 x2 x3).trans (h2 z j x1 x2 x3)
theorem ofM_r : ofM G G := fun _ _ _ _ _ => rfl
theorem k226 (d : Nat) (h : ofQ s G D) (V : RV D nb m sg s w tb) (hp : RR G s nb w p) (P : PI nb p) : ∃ G', ofQ s G' D ∧ RR G' s nb w (saP sg p) ∧ den (d + 1) 226 [(2, 129), (0, s)] (Sg xs n G) = some ((9, 0), Sg xs n G') := by
  obtain ⟨s0, s1⟩ := V.2.2.2.2
  have hn := P.2.2.1
  have e0 := V.2.1.2 0 (by omega)
  have e0' : G 154 (8 * s) = sg 0 := by
    rw [ofQ_z h 154 (by omega)]
    have : (8 * s + ((0 : Nat) : Int)) = 8 * s := by omega
    rw [this] at e0
    exact e0
  refine ⟨up (up (up G (fc 4) s 0) (fc 5) s (sg 0)) (fc 6) s 0, ofQ_f (by omega) (by omega) (ofQ_f (by omega) (by omega) (ofQ_f (by omega) (by omega) h)), RR_f (by omega) (by omega) (RR_f (by omega) (by omega) (RR_f (by omega) (by omega) hp)), ?_⟩
  have ew : w32 (8 * s) = 8 * s := by rw [w32_idP (by omega) (by omega)]
  have t := inb_t s0 s1
  rw [n226, h226_0, if_pos t, ew, if_pos (inb_t (by omega) (by omega)), if_pos t, if_pos t, e0']
  rfl
theorem k248 (d : Nat) (y : Int) (hy : 0 < y) (h : ofQ s G D) (V : RV D nb m sg s w tb) (hp : RR G s nb w p) : ∃ G', ofQ s G' D ∧ RR G' s nb w (drP p) ∧ den (d + 1) 248 [(2, 129), (0, s), (0, y)] (Sg xs n G) = some ((0, nnP (p.1 11) / 65536 % y), Sg xs n G') := by
  obtain ⟨s0, s1⟩ := V.2.2.2.2
  have e : G 145 s = p.1 11 := hp.2.1 11 (by omega) (by omega)
  have hn := nnP_l (p.1 11)
  refine ⟨up G (fc 11) s (nnP (p.1 11)), ofQ_f (by omega) (by omega) h, RR_f (by omega) (by omega) hp, ?_⟩
  have t := inb_t s0 s1
  rw [n248, h248_0, if_pos t, if_pos t, if_pos t, if_pos (by simp; omega), e, draw_r, up_at, draw_s]
  unfold i_rem
  rw [Int.tmod_eq_emod_of_nonneg (by omega)]
  rfl
theorem k249 (d : Nat) (h : ofQ s G D) (V : RV D nb m sg s w tb) (hp : RR G s nb w p) : ∃ G', ofQ s G' D ∧ RR G' s nb w (juP D w bn p).2 ∧ den (d + 2) 249 [(2, 129), (0, s), (0, bn)] (Sg xs n G) = some ((0, bB ((juP D w bn p).1 = true)), Sg xs n G') := by
  have hr : ret01 249 0 = true ∧ ret01 249 1 = true := ⟨rfl, rfl⟩
  rw [n249, h249_0, ofQ_129 h 48 (by decide), V.2.2.1, ofQ_z h 131 (by omega)]
  simp only [h249_16, h249_29, h249_51, h249_62, hr, if_true]
  rw [ofQ_129 h 48 (by decide), V.2.2.1]
  unfold juP
  by_cases q5 : w = 5
  · refine ⟨G, h, by rw [if_pos q5]; exact hp, ?_⟩
    rw [if_pos q5, if_pos q5, if_pos (show ¬ w = 3 by omega)]
    rfl
  rw [if_neg q5, if_neg q5]
  by_cases q3 : w = 3
  · refine ⟨G, h, by rw [if_pos q3]; exact hp, ?_⟩
    rw [if_pos q3, if_neg (fun z => z q3), if_neg (fun z => z q3)]
    rfl
  rw [if_neg q3, if_pos q3]
  have e50 : (if D 131 4 < 50 then some (((0, 0) : Vv), Sg xs n G) else some (((0, 1) : Vv), Sg xs n G)) = some ((0, bB (decide (50 ≤ D 131 4) = true)), Sg xs n G) := by
    by_cases q : D 131 4 < 50
    · rw [if_pos q, bB_f (by simp; omega)]
    · rw [if_neg q, bB_t (by simp; omega)]
  by_cases q : bn = 0 ∨ D 131 4 = 0 ∨ D 131 4 = 100
  · refine ⟨G, h, by rw [if_pos q]; exact hp, ?_⟩
    rw [if_pos q, ← e50]
    by_cases q1 : bn = 0
    · rw [if_pos q1]
    · rw [if_neg q1]
      by_cases q2 : D 131 4 = 0
      · rw [if_pos q2]
      · rw [if_neg q2, if_neg (fun z => by omega)]
  · obtain ⟨G', a1, a2, a3⟩ := k248 (xs := xs) (n := n) d 100 (by omega) h V hp
    refine ⟨G', a1, by rw [if_neg q]; exact a2, ?_⟩
    rw [if_neg q, if_neg (fun z => q (Or.inl z)), if_neg (fun z => q (Or.inr (Or.inl z))), if_pos (fun z => q (Or.inr (Or.inr z))), a3, cK0, pR0, h249_70]
    simp only [h249_79, hr, if_true]
    by_cases q2 : nnP (p.1 11) / 65536 % 100 < D 131 4
    · rw [if_neg (fun z => z q2), bB_t (by simp [q2])]
    · rw [if_pos q2, bB_f (by simp [q2])]
theorem kNm (d : Nat) (b : Int) (h : ofQ s G D) (V : RV D nb m sg s w tb) (hp : RR G s nb w p) (h0 : 0 ≤ b) (h1 : b < nb) : ∃ G', ofM G' G ∧ ofQ s G' D ∧ RR G' s nb w p ∧ (∀ j : Nat, j < 7 → G' 142 j = nmP D m w tb p b j) ∧ den (d + 2) 243 [(2, 129), (0, s), (0, b)] (Sg xs n G) = some ((9, 0), Sg xs n G') := by
  obtain ⟨G', a1, a2, a3⟩ := k243 (xs := xs) (n := n) d b h V hp h0 h1
  have hM : ofM G' G := fun z j x1 _ _ => a1 z j x1
  exact ⟨G', hM, ofQ_M hM h, RR_M hM hp, a2, a3⟩
theorem vis_q (V : RV D nb m sg s w tb) (hp : RR G s nb w p) {b : Int} (h0 : 0 ≤ b) (h1 : b < nb) : w32 (w32 (8 * s) + b) = 8 * s + b ∧ G 155 (8 * s + b) = p.2 b ∧ inb (8 * s + b) 184 = true := by
  have h8 := V.1.2.1.1.2.1
  obtain ⟨s0, s1⟩ := V.2.2.2.2
  have tv := hp.2.2 b.toNat (by omega)
  rw [Int.toNat_of_nonneg h0] at tv
  exact ⟨by rw [w32_idP (z := 8 * s) (by omega) (by omega), w32_idP (by omega) (by omega)], tv, inb_t (by omega) (by omega)⟩
theorem k247 (d : Nat) (h : ofQ s G D) (V : RV D nb m sg s w tb) (hp : RR G s nb w p) (P : PI nb p) (hc : ¬ cntE (D 136) (p.1 4) m = 0) : ∃ G', ofM G' G ∧ den (d + 5) 247 [(2, 129), (0, s)] (Sg xs n G) = some ((0, nthE (D 136) (fun z => z) (p.1 4) m m (tuP D m w tb p)), Sg xs n G') := by
  have h16 := V.1.2.1.1.2.2.2.1
  obtain ⟨s0, s1⟩ := V.2.2.2.2
  obtain ⟨pl0, pl1⟩ := P.2.2.1
  have pv := P.2.2.2.2.2.2.2.2 (p.1 4).toNat (by omega)
  rw [Int.toNat_of_nonneg pl0] at pv
  have hcb := cntE_b (D 136) (p.1 4) m
  have ht := tuP_l (D := D) (m := m) (w := w) (tb := tb) (p := p) (by omega)
  have f4 : G 146 s = p.1 4 := hp.2.1 4 (by omega) (by omega)
  have hm : ∀ {F : Sto}, ofQ s F D → F 131 1 = m := fun {F} hF => by
    rw [ofQ_z hF 131 (by omega)]
    exact V.1.2.1.1.2.2.1
  have e235 : ∀ d, den (d + 1) 235 [(2, 129), (0, p.1 4)] (Sg xs n G) = some ((0, cntE (D 136) (p.1 4) m), Sg xs n G) := fun d => by
    have := c235 (xs := xs) (n := n) (D := G) d (p.1 4) m (hm h) h16
    rw [ofQ_z h 136 (by omega)] at this
    exact this
  have e236 : ∀ {F : Sto} (d) (i : Int), ofQ s F D → 0 ≤ i → i < 1000 → den (d + 1) 236 [(2, 129), (0, p.1 4), (0, i)] (Sg xs n F) = some ((0, nthE (D 136) (fun z => z) (p.1 4) m m i), Sg xs n F) := fun {F} d i hF i0 i1 => by
    have := c236 (xs := xs) (n := n) (D := F) d (p.1 4) i i0 i1 m (hm hF) h16
    rw [ofQ_z hF 136 (by omega)] at this
    exact this
  rw [n247, h247_0, if_pos (inb_t s0 s1), f4, e235, cK0, pR0, h247_12, ofQ_129 h 48 (by decide), V.2.2.1]
  unfold tuP at ht ⊢
  by_cases q4 : w = 4
  · refine ⟨G, ofM_r, ?_⟩
    rw [if_neg (fun z => z q4), if_pos q4, e236 _ 0 h (by omega) (by omega), cK0, pR0, h247_27]
  · rw [if_pos q4, if_neg q4]
    rw [if_neg q4] at ht
    obtain ⟨G1, a1, a2, a3, a4, a5⟩ := kNm (xs := xs) (n := n) (d + 2) (p.1 4) h V hp pl0 pl1
    obtain ⟨v1, v2, v3⟩ := vis_q V a3 pl0 pl1
    have er : i_rem (p.2 (p.1 4)) (cntE (D 136) (p.1 4) m) = p.2 (p.1 4) % cntE (D 136) (p.1 4) m := by
      unfold i_rem
      rw [Int.tmod_eq_emod_of_nonneg (by omega)]
    rw [a5, cK9]
    show ∃ G', ofM G' G ∧ Rn (d + 4) 247 34 [some (2, 129), some (0, s), some (0, p.1 4), some (0, cntE (D 136) (p.1 4) m), none] [] (Sg xs n G1) = _
    rw [h247_34, v1, if_pos v3, if_pos (by simp; omega), v2, er]
    obtain ⟨l1, l2⟩ | ⟨l1, G2, l2, l3⟩ := kLaw (xs := xs) (n := n) (w := w) (tb := tb) d 1 (p.1 4) (by omega) a2 V P pl0 pl1 a4
    · rw [show ((1 : Nat) : Int) = 1 from rfl] at l1 l2
      rw [l1] at ht ⊢
      refine ⟨G1, a1, ?_⟩
      rw [l2, cK0, pR0, h247_54, if_pos rfl, h247_77, e236 _ _ a2 ht.1 (by omega), cK0, pR0, h247_84]
    · rw [show ((1 : Nat) : Int) = 1 from rfl] at l1 l3
      have h2 := ofQ_M (ofV_M l2) a2
      refine ⟨G2, ofM_t (ofV_M l2) a1, ?_⟩
      rw [l1, cK0, pR0, h247_54, if_neg (by decide)]
      obtain ⟨m1, m2'⟩ | ⟨m1, m2', m3⟩ := l3
      · rw [m1] at ht ⊢
        rw [m2', cK0, pR0, h247_62, if_pos rfl, h247_77, e236 _ _ h2 ht.1 (by omega), cK0, pR0, h247_84]
      · rw [m1] at ht ⊢
        rw [m3, cK0, pR0, h247_62, if_neg (by decide), c244 _ _ _ m2' (by omega) (by omega), cK0, pR0, h247_75, h247_77, e236 _ _ h2 ht.1 (by omega), cK0, pR0, h247_84]
theorem k250 (d : Nat) (h : ofQ s G D) (V : RV D nb m sg s w tb) (hp : RR G s nb w p) (P : PI nb p) : ∃ G', ofQ s G' D ∧ RR G' s nb w (laP D nb m w tb bn p).2 ∧ den (d + 5) 250 [(2, 129), (0, s), (0, bn)] (Sg xs n G) = some ((0, (laP D nb m w tb bn p).1), Sg xs n G') := by
  have h8 := V.1.2.1.1.2.1
  obtain ⟨s0, s1⟩ := V.2.2.2.2
  obtain ⟨pl0, pl1⟩ := P.2.2.1
  have f4 : G 146 s = p.1 4 := hp.2.1 4 (by omega) (by omega)
  have hnb : ∀ {F : Sto}, ofQ s F D → F 131 0 = nb := fun {F} hF => by
    rw [ofQ_z hF 131 (by omega)]
    exact V.1.2.1.1.1
  obtain ⟨G1, a1, a2, a3, a4, a5⟩ := kNm (xs := xs) (n := n) (d + 2) (p.1 4) h V hp pl0 pl1
  have none_ : ∀ {F : Sto}, ofQ s F D → RR F s nb w p → lwP D m w tb 2 p (p.1 4) = none → ∃ G', ofQ s G' D ∧ RR G' s nb w (laP D nb m w tb bn p).2 ∧ Rn (d + 4) 250 43 [some (2, 129), some (0, s), some (0, bn)] [] (Sg xs n F) = some ((0, (laP D nb m w tb bn p).1), Sg xs n G') := by
    intro F hF hpF hl
    unfold laP
    rw [hl]
    show ∃ G', ofQ s G' D ∧ RR G' s nb w (if bn = 0 then ((nb : Int) - 1, p) else (nnP (p.1 11) / 65536 % nb, drP p)).2 ∧ _ = some ((0, (if bn = 0 then ((nb : Int) - 1, p) else (nnP (p.1 11) / 65536 % nb, drP p)).1), Sg xs n G')
    rw [h250_43, hnb hF]
    by_cases q : bn = 0
    · refine ⟨F, hF, by rw [if_pos q]; exact hpF, ?_⟩
      rw [if_pos q, if_pos q, h250_69, w32_idP (by omega) (by omega)]
    · obtain ⟨G2, b1, b2, b3⟩ := k248 (xs := xs) (n := n) (d + 3) (nb : Int) (by omega) hF V hpF
      refine ⟨G2, b1, by rw [if_neg q]; exact b2, ?_⟩
      rw [if_neg q, if_neg q, b3, cK0, pR0, h250_58, h250_69]
  rw [n250, h250_0, if_pos (inb_t s0 s1), f4, a5, cK9]
  show ∃ G', ofQ s G' D ∧ RR G' s nb w (laP D nb m w tb bn p).2 ∧ Rn (d + 4) 250 11 [some (2, 129), some (0, s), some (0, bn)] [] (Sg xs n G1) = _
  rw [h250_11]
  obtain ⟨l1, l2⟩ | ⟨l1, G2, l2, l3⟩ := kLaw (xs := xs) (n := n) (w := w) (tb := tb) d 2 (p.1 4) (by omega) a2 V P pl0 pl1 a4
  · rw [show ((2 : Nat) : Int) = 2 from rfl] at l1 l2
    rw [l2, cK0, pR0, h250_16, if_pos rfl]
    exact none_ a2 a3 l1
  · rw [show ((2 : Nat) : Int) = 2 from rfl] at l1 l3
    have h2 := ofQ_M (ofV_M l2) a2
    have hp2 := RR_M (ofV_M l2) a3
    rw [l1, cK0, pR0, h250_16, if_neg (by decide)]
    obtain ⟨m1, m2'⟩ | ⟨m1, m2', m3⟩ := l3
    · rw [m2', cK0, pR0, h250_24, if_pos rfl]
      exact none_ h2 hp2 m1
    · unfold laP
      rw [m1]
      refine ⟨G2, h2, hp2, ?_⟩
      rw [m3, cK0, pR0, h250_24, if_neg (by decide), hnb h2, c244 _ _ _ m2' (by omega) (by omega), cK0, pR0, h250_42]
end S88
