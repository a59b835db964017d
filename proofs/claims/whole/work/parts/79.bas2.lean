/-! Twins: bases -/
def isMin (D : Sto) (nb m : Nat) (v : Int) : Prop := (∀ bs, okB D nb m bs → v ≤ VB D nb m bs) ∧ ∃ bs, okB D nb m bs ∧ v = VB D nb m bs
theorem min_eq {D : Sto} {nb m : Nat} {v w : Int} (h1 : isMin D nb m v) (h2 : isMin D nb m w) : v = w := by
  obtain ⟨a1, bs, a2, a3⟩ := h1
  obtain ⟨b1, bt, b2, b3⟩ := h2
  have t1 := a1 bt b2
  have t2 := b1 bs a2
  omega
section S79
variable {xs : Int → Int} {n : Int × Int} {D G E : Sto} {nb m : Nat}
theorem c109 (d : Nat) (g : GE D D nb m) (h56 : ∀ b : Nat, b < nb → cntE (D 137) b m = 0 → D 56 b = -1) : ∃ (G : Sto) (v : Int), of5 G D ∧ isMin D nb m v ∧ den (d + 7) 109 [(2, 54)] (Sg xs n D) = some ((0, v), Sg xs n G) := by
  have h8 := g.1.2.1
  have h16 := g.1.2.2.2.1
  have k1 : ∀ r b (G : Sto), b + r = nb → of5 G D → (∀ c : Nat, b ≤ c → c < nb → G 56 c = D 56 c) → (∀ c : Nat, c < b → stB G D m c ∧ fsB G D m c) → ∃ G', okSB G' D nb m ∧ (∀ c : Nat, c < nb → fsB G' D m c) ∧ Rn (d + 6) 109 2 [some (2, 54), some (0, (b : Int)), none] [] (Sg xs n G) = Rn (d + 6) 109 2 [some (2, 54), some (0, (nb : Int)), none] [] (Sg xs n G') := by
    intro r
    induction r with
    | zero =>
      intro b G hb hG _ hs
      obtain rfl : b = nb := by omega
      exact ⟨G, ⟨hG, fun c hc => (hs c hc).1⟩, fun c hc => (hs c hc).2, rfl⟩
    | succ r ih =>
      intro b G hb hG h5 hs
      obtain ⟨G1, v, a1, a2, a4, a5⟩ := reset (xs := xs) (n := n) (d + 5) b g hG (by omega) (fun w => by rw [h5 b (Nat.le_refl b) (by omega)]; exact h56 b (by omega) w)
      obtain ⟨G2, b1, b2, b3⟩ := ih (b + 1) G1 (by omega) a1 (fun c hc1 hc2 => by rw [a4 56 c (by omega)]; exact h5 c (by omega) hc2) (fun c hc => by
        by_cases q : c = b
        · subst q; exact a2
        · obtain ⟨t1, t2⟩ := hs c (by omega)
          constructor
          · unfold stB at t1 ⊢
            rw [a4 57 c (by omega), a4 56 c (by omega)]
            exact t1
          · intro e he ht
            rw [a4 57 c (by omega)]
            exact t2 e he ht)
      refine ⟨G2, b1, b2, ?_⟩
      rw [h109_2, o5_f hG 30 (by decide) (by decide), g.1.1, if_neg (by omega), if_pos (inb_t (by omega) (by omega)), a5, cK0, pR0, h109_25, w1 (by omega)]
      exact b3
  obtain ⟨G1, a1, a2, a3⟩ := k1 nb 0 D (by omega) (fun _ _ _ _ => rfl) (fun _ _ _ => rfl) (fun c hc => by omega)
  have hv1 := VB_b (D := D) (G1 56) h8 h16
  obtain ⟨G2, f, b1, b2, b3, ⟨b4, b5, b6, b7⟩, b8⟩ := sweep (xs := xs) (n := n) d g nb (Nat.le_refl nb) G1 (VB D nb m (G1 56)) 0 a1 a2 (by have := PB_max g.2.1; omega) (Int.le_refl _) hv1.1
  obtain ⟨G3, c1, c2, c3, c4⟩ := k110 (xs := xs) (n := n) (d + 4) nb g (Nat.le_refl nb) nb 0 G2 (by omega) b1 (fun c _ hc => b2 c hc) (fun c hc => by omega)
  have hPm := PB_max g.2.1
  have hP := PB_pos (D := D) (m := m) nb
  have cho : den (d + 6) 110 [(2, 54)] (Sg xs n G2) = some ((0, 0), Sg xs n G3) := by
    rw [n110, h110_0]
    refine c4.trans ?_
    rw [h110_2, o5_f c1.1 30 (by decide) (by decide), g.1.1, if_pos (by omega)]
  refine ⟨G3, f, c1.1, ⟨fun bs hbs => b5 bs hbs (fun b h1 h2 => by omega), ?_⟩, ?_⟩
  · obtain w | w := b6
    · exact ⟨G1 56, okS_B a1, w⟩
    · exact w
  · rw [n109, h109_0]
    refine a3.trans ?_
    rw [h109_2, o5_f a1.1 30 (by decide) (by decide), g.1.1, if_pos (by omega), c100V d g a1.1, cK0, pR0, h109_36]
    refine b8.trans ?_
    rw [h109_39, if_neg (by omega), cho, cK0, pR0, h109_49, if_pos rfl, h109_67]
/-- the reference's store while it tries bases, beside the class's -/
def RT (E D : Sto) (nb m : Nat) : Prop := RG E nb m ∧ E 129 45 = 1 ∧ (∀ b : Nat, b < nb → D 55 b = rsg E 0 b) ∧ (E 136 = D 136 ∧ E 137 = D 137) ∧ (∀ b : Nat, b < nb → 0 ≤ E 135 b ∧ E 135 b ≤ 8)
def o156 (G E : Sto) : Prop := ∀ z j : Int, ¬ z = 156 → G z j = E z j
theorem RT_o (h : o156 G E) (R : RT E D nb m) : RT G D nb m := by
  have f : ∀ z : Int, ¬ z = 156 → G z = E z := fun z hz => funext (fun j => h z j hz)
  obtain ⟨r1, r2, r3, r4, r5⟩ := R
  refine ⟨?_, by rw [f 129 (by decide)]; exact r2, fun b hb => ?_, by rw [f 136 (by decide), f 137 (by decide)]; exact r4, by rw [f 135 (by decide)]; exact r5⟩
  · unfold RG
    rw [f 131 (by decide), f 136 (by decide), f 137 (by decide)]
    exact r1
  · unfold rsg
    rw [f 129 (by decide), f 154 (by decide)]
    exact r3 b hb
theorem RT_bs (R : RT E D nb m) (b : Int) : rbs E m b = E 156 b := by
  unfold rbs
  rw [R.2.1, if_neg (by decide)]
theorem okB_b {bs : Int → Int} (H : RG D nb m) (h : okB D nb m bs) {b : Nat} (hb : b < nb) : -1 ≤ bs b ∧ bs b < nb ∧ (0 < cntE (D 137) b m → 0 ≤ bs b) := by
  obtain ⟨h1, h2⟩ | ⟨e, e1, e2, e3⟩ := h b hb
  · rw [h2]
    exact ⟨by omega, by omega, fun w => by omega⟩
  · have := (H.2.2.2.2 e e1).1
    rw [e3]
    omega
theorem c285V (d : Nat) (g : GE D D nb m) (R : RT E D nb m) (hB : okB D nb m (E 156)) : den (d + 7) 285 [(2, 129)] (Sg xs n E) = some ((0, VB D nb m (E 156)), Sg xs n E) := by
  have h8 := g.1.2.1
  obtain ⟨r1, r2, r3, ⟨r4, r5⟩, r6⟩ := R
  have R' : RT E D nb m := ⟨r1, r2, r3, ⟨r4, r5⟩, r6⟩
  have rb : RB E nb m := by
    intro b hb
    have t := okB_b g.2.1 hB hb
    rw [RT_bs R', r5]
    exact ⟨t.1, by omega, t.2.2, r6 b hb⟩
  rw [c285 d r1 rb]
  congr 3
  unfold VB
  rw [← sum_swap (fun e b => bB (¬ D 137 (e : Int) = (b : Int) ∧ mkS nb (D 31) (D 32) (D 34) (D 55) (E 156) e b = D 55 b)) nb m]
  apply sumN_ex
  intro e he
  apply sumN_ex
  intro b hb
  have t1 : mkS nb (D 31) (D 32) (D 34) (D 55) (E 156) e b = rmk E m e b := by
    refine mk_eq (D := D) (E := E) ⟨g.1, r1, ?_, ?_⟩ ?_ (fun b hb => r3 b hb) he hb
    · rw [r4, r5]
      exact g.2.2.1
    · rw [r5]
      exact g.2.2.2
    · intro c hc
      have t := okB_b g.2.1 hB hc
      rw [RT_bs R', r5]
      exact ⟨rfl, t⟩
  rw [r5, t1, r3 b hb]
/-- the fewest, the first bases given -/
def mnP (D : Sto) (nb m b : Nat) (bt : Int → Int) (v : Int) : Prop := (∀ bs, okB D nb m bs → (∀ c : Nat, c < b → bs c = bt c) → v ≤ VB D nb m bs) ∧ (∃ bs, okB D nb m bs ∧ (∀ c : Nat, c < b → bs c = bt c) ∧ v = VB D nb m bs)
def ok1 (D : Sto) (m b : Nat) (v : Int) : Prop := (cntE (D 137) b m = 0 ∧ v = -1) ∨ ∃ e : Nat, e < m ∧ D 137 e = b ∧ v = D 136 e
theorem k289 (g : GE D D nb m) : ∀ (r d b : Nat) (E : Sto), b + r = nb → RT E D nb m → (∀ c : Nat, c < b → ok1 D m c (E 156 c)) → ∃ (G : Sto) (v : Int), o156 G E ∧ (∀ c : Nat, c < b → G 156 c = E 156 c) ∧ mnP D nb m b (E 156) v ∧ den (d + r + 8) 289 [(2, 129), (0, (b : Int))] (Sg xs n E) = some ((0, v), Sg xs n G) := by
  have h8 := g.1.2.1
  have h16 := g.1.2.2.2.1
  have hE : ∀ e : Nat, e < m → 0 ≤ D 32 e ∧ D 32 e < nb := fun e he => (g.1.2.2.2.2 e he).2
  intro r
  induction r with
  | zero =>
    intro d b E hb R ho
    obtain rfl : b = nb := by omega
    have hB : okB D b m (E 156) := fun c hc => ho c hc
    refine ⟨E, VB D b m (E 156), fun _ _ _ => rfl, fun _ _ => rfl, ⟨fun bs hbs hq => ?_, E 156, hB, fun _ _ => rfl, rfl⟩, ?_⟩
    · rw [VB_ex hE hq]
      exact Int.le_refl _
    · rw [n289, h289_0, R.1.1, if_neg (by simp), c285V d g R hB, cK0, pR0, h289_14]
  | succ r ih =>
    intro d b E hb R ho
    have hcb := cntE_b (D 137) b m
    let E1 := up E 156 b (-1)
    have o1 : o156 E1 E := fun z j hz => up_ne hz
    have R1 := RT_o o1 R
    have e1 := c234 (xs := xs) (n := n) (D := E1) (d + r + 7) (b : Int) m R1.1.2.2.1 h16
    rw [R1.2.2.2.1.2] at e1
    have st : den (d + (r + 1) + 8) 289 [(2, 129), (0, (b : Int))] (Sg xs n E) = Rn (d + r + 8) 289 27 [some (2, 129), some (0, (b : Int)), none, none] [(0, cntE (D 137) b m)] (Sg xs n E1) := by
      rw [show d + (r + 1) + 8 = (d + r + 8) + 1 by omega, n289, h289_0, R.1.1, if_pos (by omega), if_pos (inb_t (by omega) (by omega))]
      show cK (den (d + r + 8) 234 [(2, 129), (0, (b : Int))] (Sg xs n E1)) _ = _
      rw [e1, cK0, pR0]
    rw [st, h289_27, w1 (by omega)]
    by_cases hz : cntE (D 137) b m = 0
    · obtain ⟨G, v, a1, a2, ⟨a3, bs, a4, a5, a6⟩, a7⟩ := ih d (b + 1) E1 (by omega) R1 (fun c hc => by
        by_cases q : c = b
        · rw [q]
          exact Or.inl ⟨hz, up_at⟩
        · show ok1 D m c (up E 156 b (-1) 156 c)
          rw [up_ni (by omega)]
          exact ho c (by omega))
      have hno : ∀ bt, okB D nb m bt → bt b = -1 := by
        intro bt hbt
        obtain ⟨_, w⟩ | ⟨e, e1, e2, _⟩ := hbt b (by omega)
        · exact w
        · have := cnt_pos (f := D 137) (v := b) (k := e) m e1 e2
          omega
      refine ⟨G, v, fun z j hz => (a1 z j hz).trans (o1 z j hz), fun c hc => ?_, ⟨fun bt hbt hq => ?_, bs, a4, fun c hc => ?_, a6⟩, ?_⟩
      · rw [a2 c (by omega)]
        exact up_ni (by omega)
      · refine a3 bt hbt (fun c hc => ?_)
        by_cases q : c = b
        · rw [q, hno bt hbt]
          exact up_at.symm
        · rw [hq c (by omega)]
          exact (up_ni (by omega)).symm
      · rw [a5 c (by omega)]
        exact up_ni (by omega)
      · rw [if_neg (fun w => w hz), a7, cK0, pR0, h289_37]
    · rw [if_pos hz]
      have loop : ∀ q (k : Nat) (E2 : Sto) (l2 : Int), ((k + q : Nat) : Int) = cntE (D 137) b m → o156 E2 E → (∀ c : Nat, c < b → E2 156 c = E 156 c) → (k = 0 ∧ l2 = 9999 ∨ (∃ bs, okB D nb m bs ∧ (∀ c : Nat, c < b → bs c = E 156 c) ∧ l2 = VB D nb m bs)) → (∀ bs, okB D nb m bs → (∀ c : Nat, c < b → bs c = E 156 c) → (∃ i : Nat, i < k ∧ bs b = nthE (D 137) (D 136) b m m i) → l2 ≤ VB D nb m bs) → ∃ (G : Sto) (v : Int), o156 G E ∧ (∀ c : Nat, c < b → G 156 c = E 156 c) ∧ mnP D nb m b (E 156) v ∧ Rn (d + r + 8) 289 44 [some (2, 129), some (0, (b : Int)), some (0, l2), some (0, (k : Int))] [] (Sg xs n E2) = some ((0, v), Sg xs n G) := by
        intro q
        induction q with
        | zero =>
          intro k E2 l2 hk o2 hs hl ha
          have R2 := RT_o o2 R
          have e2 := c234 (xs := xs) (n := n) (D := E2) (d + r + 7) (b : Int) m R2.1.2.2.1 h16
          rw [R2.2.2.2.1.2] at e2
          refine ⟨E2, l2, o2, hs, ⟨fun bs hbs hq => ha bs hbs hq ?_, ?_⟩, ?_⟩
          · obtain ⟨w, _⟩ | ⟨e, e1, e2, e3⟩ := hbs b (by omega)
            · exact absurd w hz
            · obtain ⟨i, i1, i2⟩ := nth_all (f := D 137) (g := D 136) (v := (b : Int)) (m := m) e1 e2
              exact ⟨i, by omega, by rw [e3, i2]⟩
          · obtain ⟨w, _⟩ | w := hl
            · omega
            · exact w
          · rw [h289_44, e2, cK0, pR0, h289_50, if_pos (by omega)]
        | succ q ihq =>
          intro k E2 l2 hk o2 hs hl ha
          have R2 := RT_o o2 R
          have e2 := c234 (xs := xs) (n := n) (D := E2) (d + r + 7) (b : Int) m R2.1.2.2.1 h16
          rw [R2.2.2.2.1.2] at e2
          have e3 := c237 (xs := xs) (n := n) (D := E2) (d + r + 7) (b : Int) (k : Int) (by omega) (by omega) m R2.1.2.2.1 h16
          rw [R2.2.2.2.1.2, R2.2.2.2.1.1] at e3
          obtain ⟨e, x1, x2, x3⟩ := nth_ok (f := D 137) (g := D 136) (v := (b : Int)) (m := m) (i := (k : Int)) (by omega) (by omega)
          let E3 := up E2 156 b (nthE (D 137) (D 136) b m m k)
          have o3 : o156 E3 E := fun z j hz => by show up E2 156 b _ z j = _; rw [up_ne hz]; exact o2 z j hz
          have s3 : ∀ c : Nat, c < b → E3 156 c = E 156 c := fun c hc => by show up E2 156 b _ 156 c = _; rw [up_ni (by omega)]; exact hs c hc
          have b3 : E3 156 b = nthE (D 137) (D 136) b m m k := up_at
          obtain ⟨G, v, a1, a2, ⟨a3, bs, a4, a5, a6⟩, a7⟩ := ih d (b + 1) E3 (by omega) (RT_o o3 R) (fun c hc => by
            by_cases q : c = b
            · rw [q, b3]
              exact Or.inr ⟨e, x1, x2, x3⟩
            · rw [s3 c (by omega)]
              exact ho c (by omega))
          have hvb := VB_b (D := D) bs h8 h16
          have hl9 : 0 ≤ l2 ∧ l2 ≤ 9999 := by
            obtain ⟨_, w⟩ | ⟨bt, _, _, w⟩ := hl
            · omega
            · have := VB_b (D := D) bt h8 h16
              omega
          obtain ⟨G', v', c1, c2, c3, c4⟩ := ihq (k + 1) G (min l2 v) (by omega) (fun z j hz => (a1 z j hz).trans (o3 z j hz)) (fun c hc => by rw [a2 c (by omega)]; exact s3 c hc) (by
            right
            obtain ⟨_, w⟩ | w := hl
            · exact ⟨bs, a4, fun c hc => by rw [a5 c (by omega)]; exact s3 c hc, by rw [w, Int.min_eq_right (by omega)]; exact a6⟩
            · by_cases q2 : l2 ≤ v
              · rw [Int.min_eq_left q2]; exact w
              · rw [Int.min_eq_right (by omega)]
                exact ⟨bs, a4, fun c hc => by rw [a5 c (by omega)]; exact s3 c hc, a6⟩) (fun bt hbt hq ⟨i, i1, i2⟩ => by
            by_cases q2 : i = k
            · subst q2
              have t := a3 bt hbt (fun c hc => by
                by_cases q3 : c = b
                · rw [q3, b3]; exact i2
                · rw [s3 c (by omega)]; exact hq c (by omega))
              have := Int.min_le_right l2 v
              omega
            · have t := ha bt hbt hq ⟨i, by omega, i2⟩
              have := Int.min_le_left l2 v
              omega)
          refine ⟨G', v', c1, c2, c3, ?_⟩
          rw [h289_44, e2, cK0, pR0, h289_50, if_neg (by omega), e3, cK0, pR0, h289_64, if_pos (inb_t (by omega) (by omega)), w1 (by omega)]
          show cK (den (d + r + 8) 289 [(2, 129), (0, ((b + 1 : Nat) : Int))] (Sg xs n E3)) _ = _
          rw [a7, cK0, pR0, h289_73, c323, cK0, pR0, h289_76, w1 (by omega)]
          exact c4
      obtain ⟨G, v, a1, a2, a3, a4⟩ := loop (cntE (D 137) b m).toNat 0 E1 9999 (by omega) o1 (fun c hc => up_ni (by omega)) (Or.inl ⟨rfl, rfl⟩) (fun bs _ _ ⟨i, i1, _⟩ => by omega)
      exact ⟨G, v, a1, a2, a3, a4⟩
theorem ts_bases (R : Rel D) (d : Nat) : tws xs n (d + 60) 0 158 290 [] D := by
  have R0 := R
  obtain ⟨nb, m, K, X⟩ := R
  obtain ⟨g, hB, hS, hR⟩ := tk_rel K
  have h8 := g.1.2.1
  obtain ⟨G, v, a1, a2, a3⟩ := c109 (xs := xs) (n := n) (D := tkS D) (d + 52) g (by
    intro b hb hz
    obtain ⟨t1, t2, t3, t4⟩ := hB b hb
    obtain ⟨gg, hB0, hS0, h46, h45, hRB⟩ := RelK_G K
    rw [t1]
    unfold rbs
    rw [show tkS D 129 45 = 0 by rw [tk_ne (by decide) (by decide)]; exact h45, if_pos rfl]
    have hx := (X.1 b hb).2.2.2
    have e137 : tkS D 137 = D 137 := tk_f (by decide) (by decide)
    rw [e137] at hz
    have q : D 135 b = 0 := by
      apply Classical.byContradiction
      intro w
      obtain ⟨e, e1, e2, _⟩ := hx w
      have := cnt_pos (f := D 137) (v := b) (k := e) m e1 e2
      omega
    rw [tk_ne (z := (b : Int)) (by decide) (by decide), if_pos q, e137]
    have hn : ∀ (f g : Int → Int) (r : Nat) (k : Int), r ≤ m → (∀ e : Nat, e < m → ¬ f e = (b : Int)) → nthE f g b m r k = -1 := by
      intro f g r
      induction r with
      | zero => intro k _ _; rfl
      | succ r ih =>
        intro k hr hno
        show (if f ((m - (r + 1) : Nat) : Int) = (b : Int) then _ else nthE f g b m r k) = -1
        rw [if_neg (hno _ (by omega))]
        exact ih k (by omega) hno
    exact hn _ _ m 0 (Nat.le_refl m) (fun e he w => by
      have := cnt_pos (f := D 137) (v := b) (k := e) m he w
      omega))
  have hsim : sim G D := by
    intro z j hz
    unfold scr at hz
    rw [a1 z j (by omega) (by omega), tk_ne (by omega) (by omega)]
  have K1 := RelK_sim K hsim
  obtain ⟨g1, hB1, hS1, h46, h45, hRB1⟩ := RelK_G K1
  obtain ⟨q, q', r, K2⟩ := K1
  let E := up (up G 129 0 0) 129 45 1
  have hz : ∀ z j : Int, ¬ (z = 129 ∧ (j = 0 ∨ j = 45)) → E z j = G z j := by
    intro z j h
    show up (up G 129 0 0) 129 45 1 z j = G z j
    unfold up
    rw [if_neg (by omega), if_neg (by omega)]
  have f : ∀ z : Int, ¬ z = 129 → E z = G z := fun z h => funext (fun j => hz z j (fun w => h w.1))
  have RTE : RT E (tkS D) nb m := by
    refine ⟨?_, up_at, fun b hb => ?_, ⟨?_, ?_⟩, ?_⟩
    · unfold RG
      rw [f 131 (by decide), f 136 (by decide), f 137 (by decide)]
      exact g1.2.1
    · have t := hS b hb
      rw [t]
      unfold rsg
      rw [hz 129 46 (by decide), hz 129 47 (by decide), f 154 (by decide), a1 129 46 (by decide) (by decide), a1 129 47 (by decide) (by decide), o5_f a1 154 (by decide) (by decide)]
    · rw [f 136 (by decide), o5_f a1 136 (by decide) (by decide)]
    · rw [f 137 (by decide), o5_f a1 137 (by decide) (by decide)]
    · rw [f 135 (by decide)]
      exact r.2.2.2.2.2.1
  obtain ⟨E2, w, b1, b2, ⟨b3, bs, b4, b5, b6⟩, b7⟩ := k289 (xs := xs) (n := n) g nb (d + 51 - nb) 0 E (by omega) RTE (fun c hc => by omega)
  have hm : isMin (tkS D) nb m w := ⟨fun bt hbt => b3 bt hbt (fun c hc => by omega), bs, b4, b6⟩
  have ev := min_eq a2 hm
  subst ev
  rw [show d + 51 - nb + nb + 8 = d + 59 by omega] at b7
  refine tws_sim R0 (D1 := G) (D2 := up E2 129 45 0) (a := v) ?_ ?_ ?_
  · rw [n158, h158_0, c96]
    show Rn (d + 59) 158 14 [some (2, 1)] [] (Sg xs n (tkS D)) = _
    rw [h158_14, a3, cK0, pR0, h158_21]
  · rw [n290, h290_0]
    show cK (den (d + 59) 289 [(2, 129), (0, 0)] (Sg xs n E)) _ = _
    have b7' : den (d + 59) 289 [(2, 129), (0, 0)] (Sg xs n E) = some ((0, v), Sg xs n E2) := b7
    rw [b7', cK0, pR0, h290_15]
  · refine sim_t ?_ hsim
    intro z j hs
    by_cases c : z = 129 ∧ j = 45
    · rw [c.1, c.2, up_at]
      exact h45.symm
    · have : up E2 129 45 0 z j = E2 z j := by
        unfold up
        rw [if_neg c]
      unfold scr at hs
      rw [this, b1 z j (by omega)]
      exact hz z j (by omega)
end S79
