/-! Steps: the class's run beside the step that is told apart from it -/
def CR (G : Sto) (r : Int) (nb : Nat) (p : PSt) : Prop := (∀ j : Int, 2 ≤ j → j ≤ 11 → G r j = p.1 j) ∧ ∀ b : Nat, b < nb → G (r + 2) b = p.2 b
def ofR (r : Int) (G D : Sto) : Prop := ∀ z j : Int, ¬ z = r → ¬ z = r + 2 → ¬ z = 53 → ¬ z = 45 → ¬ (z = 40 ∧ j = 7) → G z j = D z j
def ofL (G D : Sto) : Prop := ∀ z j : Int, ¬ z = 53 → ¬ z = 45 → ¬ (z = 40 ∧ j = 7) → G z j = D z j
def WF (D : Sto) (w tb bn : Int) : Prop := (D 52 2 = bn ∧ (bn = 0 ∨ bn = 1)) ∧ D 52 3 = (if w = 5 then 1 else if w = 3 then 2 else 0) ∧ D 52 4 = (if w = 4 then 1 else 0) ∧ D 52 5 = (if w = 2 then tb else -1)
def CE (D : Sto) (nb m : Nat) (sg : Int → Int) (r : Int) : Prop := GE D D nb m ∧ BE (D 36) D nb m ∧ G2 D nb m ∧ (∀ b : Nat, b < nb → D 29 b = D 134 b ∧ D (r + 1) b = sg b) ∧ D 26 7 = D 131 4 ∧ EV D nb m sg
def nm7 (G : Sto) (a0 a1 a2 a3 a4 a5 a6 : Int) : Sto := up (up (up (up (up (up (up G 53 0 a0) 53 1 a1) 53 2 a2) 53 3 a3) 53 4 a4) 53 5 a5) 53 6 a6
theorem nm7_ne {G : Sto} {a0 a1 a2 a3 a4 a5 a6 z j : Int} (h : ¬ z = 53) : nm7 G a0 a1 a2 a3 a4 a5 a6 z j = G z j := by
  unfold nm7
  rw [up_ne h, up_ne h, up_ne h, up_ne h, up_ne h, up_ne h, up_ne h]
theorem nm7_at {G : Sto} {a0 a1 a2 a3 a4 a5 a6 : Int} : nm7 G a0 a1 a2 a3 a4 a5 a6 53 0 = a0 ∧ nm7 G a0 a1 a2 a3 a4 a5 a6 53 1 = a1 ∧ nm7 G a0 a1 a2 a3 a4 a5 a6 53 2 = a2 ∧ nm7 G a0 a1 a2 a3 a4 a5 a6 53 3 = a3 ∧ nm7 G a0 a1 a2 a3 a4 a5 a6 53 4 = a4 ∧ nm7 G a0 a1 a2 a3 a4 a5 a6 53 5 = a5 ∧ nm7 G a0 a1 a2 a3 a4 a5 a6 53 6 = a6 := by
  unfold nm7 up
  simp
theorem lawV_D {G D : Sto} {nm : Int → Int} {k : Int} (h : G 138 = D 138 ∧ G 139 = D 139 ∧ G 140 = D 140 ∧ G 141 = D 141) : lawV G nm k = lawV D nm k := by
  unfold lawV
  rw [h.1, h.2.1, h.2.2.1, h.2.2.2]
theorem LE_D {G D : Sto} (h : ∀ z : Int, (41 ≤ z ∧ z ≤ 44) ∨ (138 ≤ z ∧ z ≤ 141) → G z = D z) (L : LE D) : LE G := by
  have : ∀ k : Nat, LE1 D k → LE1 G k := by
    intro k l
    unfold LE1
    rw [h 41 (by omega), h 42 (by omega), h 43 (by omega), h 44 (by omega), h 138 (by omega), h 139 (by omega), h 140 (by omega), h 141 (by omega)]
    exact l
  exact ⟨this 0 L.1, this 1 L.2.1, this 2 L.2.2⟩
section S87
variable {xs : Int → Int} {n : Int × Int} {D G : Sto} {nb m : Nat} {sg : Int → Int} {w tb bn r : Int} {p : PSt}
theorem CR_f {i v : Int} (C : CR G r nb p) : CR (up G r i v) r nb (u1 p.1 i v, p.2) := by
  constructor
  · intro j h1 h2
    show up G r i v r j = u1 p.1 i v j
    by_cases q : j = i
    · rw [q, up_at, u1_at]
    · rw [up_ni q, u1_ne q]
      exact C.1 j h1 h2
  · intro b hb
    show up G r i v (r + 2) b = p.2 b
    rw [up_ne (by omega)]
    exact C.2 b hb
theorem CR_v {b v : Int} (C : CR G r nb p) : CR (up G (r + 2) b v) r nb (p.1, u1 p.2 b v) := by
  constructor
  · intro j h1 h2
    show up G (r + 2) b v r j = p.1 j
    rw [up_ne (by omega)]
    exact C.1 j h1 h2
  · intro c hc
    show up G (r + 2) b v (r + 2) c = u1 p.2 b v c
    by_cases q : (c : Int) = b
    · rw [q, up_at, u1_at]
    · rw [up_ni q, u1_ne q]
      exact C.2 c hc
theorem CR_L {G' : Sto} (h : ofL G' G) (hr : r = 46 ∨ r = 49) (C : CR G r nb p) : CR G' r nb p := by
  constructor
  · intro j h1 h2
    rw [h r j (by omega) (by omega) (by omega)]
    exact C.1 j h1 h2
  · intro b hb
    rw [h (r + 2) b (by omega) (by omega) (by omega)]
    exact C.2 b hb
theorem ofR_f {i v : Int} (h : ofR r G D) : ofR r (up G r i v) D := fun z j h1 h2 h3 h4 h5 => by
  rw [up_ne h1]
  exact h z j h1 h2 h3 h4 h5
theorem ofR_v {i v : Int} (h : ofR r G D) : ofR r (up G (r + 2) i v) D := fun z j h1 h2 h3 h4 h5 => by
  rw [up_ne h2]
  exact h z j h1 h2 h3 h4 h5
theorem ofR_L {G' : Sto} (h : ofL G' G) (h2 : ofR r G D) : ofR r G' D := fun z j x1 x2 x3 x4 x5 => (h z j x3 x4 x5).trans (h2 z j x1 x2 x3 x4 x5)
theorem ofR_z (h : ofR r G D) (hr : r = 46 ∨ r = 49) (z : Int) (hz : (26 ≤ z ∧ z ≤ 39) ∨ (41 ≤ z ∧ z ≤ 44) ∨ z = 47 ∨ z = 50 ∨ z = 52 ∨ 54 ≤ z) : G z = D z := funext (fun j => h z j (by omega) (by omega) (by omega) (by omega) (by omega))
theorem ofR_EG (h : ofR r G D) (hr : r = 46 ∨ r = 49) (H : EG D nb m) : EG G nb m := by
  unfold EG
  rw [ofR_z h hr 30 (by omega), ofR_z h hr 31 (by omega), ofR_z h hr 32 (by omega)]
  exact H
theorem k134 (d : Nat) (b : Int) (h : ofR r G D) (hr : r = 46 ∨ r = 49) (W : WF D w tb bn) (C : CE D nb m sg r) (h0 : 0 ≤ b) (h1 : b < nb) : den (d + 1) 134 [(2, 52), (0, b)] (Sg xs n G) = some ((0, wkP D w tb b), Sg xs n G) := by
  have h8 := C.1.1.2.1
  have t := (C.2.2.2.1 b.toNat (by omega)).1
  rw [Int.toNat_of_nonneg h0] at t
  rw [n134, h134_0, ofR_z h hr 52 (by omega), ofR_z h hr 29 (by omega), W.2.2.2, t, if_pos (inb_t h0 (by omega))]
  simp only [h134_21, if_s]
  unfold wkP
  by_cases q : w = 2
  · rw [if_pos q]
    by_cases q2 : b = tb
    · rw [if_neg (fun z => z q2), if_pos ⟨q, q2⟩]
    · rw [if_pos q2, if_neg (fun z => q2 z.2)]
  · rw [if_neg q, if_pos (by omega), if_neg (fun z => q z.1)]
theorem dfS_eq (C : CE D nb m sg r) {b : Int} (h0 : 0 ≤ b) (h1 : b < nb) : diffS (D 30 0) (D (r + 1)) (D 36) b = dfP D m sg b := by
  have hs : ∀ c : Int, 0 ≤ c → c < nb → D (r + 1) c = sg c := fun c c0 c1 => by
    have := (C.2.2.2.1 c.toNat (by omega)).2
    rw [Int.toNat_of_nonneg c0] at this
    exact this
  have t := C.2.1 b.toNat (by omega)
  rw [Int.toNat_of_nonneg h0] at t
  obtain ⟨t1, t2, t3, t4⟩ := t
  unfold diffS dfP
  rw [C.1.1.1, t1, hs b h0 h1]
  by_cases q : rbs D m b = -1
  · rw [if_neg (by omega), if_pos q]
  · rw [if_pos (by omega), if_neg q, hs _ (by omega) t3]
theorem ajS_eq (C : CE D nb m sg r) {e : Nat} (he : e < m) : adjS (D 30 0) (D 31) (D 32) (D 34) (D (r + 1)) (D 36) e = ajP D m sg e := by
  have hs : ∀ c : Int, 0 ≤ c → c < nb → D (r + 1) c = sg c := fun c c0 c1 => by
    have := (C.2.2.2.1 c.toNat (by omega)).2
    rw [Int.toNat_of_nonneg c0] at this
    exact this
  obtain ⟨⟨g1, g2, g3, g4⟩, hB, _⟩ := C
  obtain ⟨f1, f2⟩ := g2.2.2.2.2 e he
  obtain ⟨x1, x2⟩ := g3 e he
  have hc : 0 < cntE (D 137) (D 137 e) m := cnt_pos m he rfl
  have hi := g4 (D 137 e).toNat (by omega)
  have hb := hB (D 137 e).toNat (by omega)
  rw [Int.toNat_of_nonneg f2.1] at hi hb
  obtain ⟨e0, h1, h2, h3⟩ := hb
  have h4 := h3 hc
  unfold adjS ajP
  rw [g1.1, x2, hi, e0, x1]
  by_cases h : cntE (D 137) (D 137 e) m < 2
  · rw [if_neg (by omega), if_pos h]
  · rw [if_pos (by omega), if_neg h, hs _ h4 h2, hs _ f1.1 f1.2]
end S87
section M3
variable {D : Sto} {nb m : Nat} {sg : Int → Int} {w tb bn : Int}
theorem enP_3 (p : PSt) (b : Int) : (enP D m sg w tb p b).1 3 = p.1 3 := by
  unfold enP
  split
  · rfl
  · rfl
theorem juP_3 (p : PSt) : (juP D w bn p).2.1 3 = p.1 3 := by
  unfold juP
  split
  · rfl
  · split
    · rfl
    · split
      · rfl
      · rfl
theorem laP_3 (p : PSt) : (laP D nb m w tb bn p).2.1 3 = p.1 3 := by
  unfold laP
  cases lwP D m w tb 2 p (p.1 4) with
  | some v => rfl
  | none =>
    show (if bn = 0 then ((nb : Int) - 1, p) else (nnP (p.1 11) / 65536 % nb, drP p)).2.1 3 = p.1 3
    split <;> rfl
theorem moP_3 (p : PSt) : (moP D nb m sg w tb bn p).1 3 = p.1 3 := by
  unfold moP
  split
  · rfl
  · show (if (juP D w bn (u1 p.1 6 (ajP D m sg (nthE (D 136) (fun z => z) (p.1 4) m m (tuP D m w tb p))), p.2)).1 = true then _ else _ : PSt).1 3 = p.1 3
    split
    · rw [enP_3, laP_3]
      show (juP D w bn (u1 p.1 6 (ajP D m sg (nthE (D 136) (fun z => z) (p.1 4) m m (tuP D m w tb p))), p.2)).2.1 3 = p.1 3
      rw [juP_3]
      rfl
    · rw [enP_3, juP_3]
      rfl
end M3
