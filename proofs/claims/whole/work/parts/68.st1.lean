/-! States behind a slip: what the reference lays down first -/
def m2 (G D : Sto) : Prop := mrk G D ∧ G 129 46 = D 129 46 ∧ G 129 47 = D 129 47
def BS (D : Sto) (nb m : Nat) : Prop := (RG D nb m ∧ RB D nb m) ∧ (∀ b : Nat, b < nb → 0 ≤ rsg D 0 b ∧ rsg D 0 b < 256) ∧ (∀ b : Nat, b < nb → rbs D m b < nb ∧ cntE (D 136) b m ≤ 3) ∧ (∀ e : Nat, e < m → cntE (D 137) (D 137 e) m < 2 → rbs D m (D 137 e) = D 136 e)
theorem cnt_1 {f : Int → Int} {v : Int} {m e e' : Nat} (h : cntE f v m < 2) (h1 : e < m) (h2 : e' < m) (h3 : f e = v) (h4 : f e' = v) : e = e' := by
  have key : ∀ a b : Nat, a < b → b < m → f a = v → f b = v → False := by
    intro a b hab hb ha hb2
    have t1 := cntE_s (f := f) (v := v) hab ha
    have t2 := cntE_s (f := f) (v := v) hb hb2
    have t3 := cntE_b f v a
    omega
  apply Classical.byContradiction
  intro q
  by_cases w : e < e'
  · exact key e e' w h2 h3 h4
  · exact key e' e (by omega) h1 h4 h3
section S68
variable {xs : Int → Int} {n : Int × Int} {D G : Sto} {nb m : Nat}
theorem m2_df (h : m2 G D) (s b : Int) : rdf G m s b = rdf D m s b := by
  unfold rdf
  rw [mrk_bs h.1, mrk_sg h.1 h.2.1 h.2.2, mrk_sg h.1 h.2.1 h.2.2]
theorem m2_aj (h : m2 G D) (s e : Int) : raj G m s e = raj D m s e := by
  unfold raj
  rw [h.1.2.2.1, h.1.2.2.2.1, mrk_bs h.1, mrk_sg h.1 h.2.1 h.2.2, mrk_sg h.1 h.2.1 h.2.2]
theorem m2_BS (h : m2 G D) (B : BS D nb m) : BS G nb m := by
  obtain ⟨⟨b1, b2⟩, b3, b4, b5⟩ := B
  refine ⟨⟨mrk_RG h.1 b1, mrk_RB h.1 b2⟩, ?_, ?_, ?_⟩
  · intro b hb
    rw [mrk_sg h.1 h.2.1 h.2.2]
    exact b3 b hb
  · intro b hb
    rw [mrk_bs h.1, h.1.2.2.1]
    exact b4 b hb
  · intro e he
    rw [h.1.2.2.2.1, mrk_bs h.1, h.1.2.2.1]
    exact b5 e he
theorem BS_of (K : RelK D nb m) (X : RelX D nb m) : BS D nb m := by
  obtain ⟨⟨g1, g2, g3, g4⟩, hB, hS, h46, h45, hRB⟩ := RelK_G K
  refine ⟨⟨g2, hRB⟩, ?_, ?_, ?_⟩
  · intro b hb
    have := (run0 X.2.2.2.1 b hb).1
    unfold rsg
    rw [h46, if_neg (by omega), show (8 * 0 + (b : Int)) = b by omega]
    exact this.2
  · intro b hb
    refine ⟨(hB b hb).2.2.1, ?_⟩
    have := (X.1 b hb).1
    omega
  · intro e he hc
    have ht := (g2.2.2.2.2 e he).2
    have hp := cnt_pos (f := D 137) (v := D 137 e) (k := e) m he rfl
    unfold rbs
    rw [if_pos h45]
    by_cases q : D 135 (D 137 e) = 0
    · rw [if_pos q]
      obtain ⟨e', a1, a2, a3⟩ := nth_ok (f := D 137) (g := D 136) (v := D 137 e) (m := m) (i := 0) (by omega) hp
      rw [a3, cnt_1 hc a1 he a2 rfl]
    · rw [if_neg q]
      have := (X.1 (D 137 e).toNat (by omega)).2.2.2
      rw [Int.toNat_of_nonneg ht.1] at this
      obtain ⟨e', a1, a2, a3⟩ := this q
      rw [← a3, cnt_1 hc a1 he a2 rfl]
def sN (D : Sto) (b : Int) : Nat := (rsg D 0 b).toNat
theorem xor_256 {a b : Nat} (h1 : a < 256) (h2 : b < 256) : a ^^^ b < 256 := Nat.xor_lt_two_pow (n := 8) h1 h2
theorem sN_eq (B : BS D nb m) {b : Int} (h0 : 0 ≤ b) (h1 : b < nb) : rsg D 0 b = ((sN D b : Nat) : Int) ∧ sN D b < 256 := by
  have := B.2.1 b.toNat (by omega)
  rw [Int.toNat_of_nonneg h0] at this
  unfold sN
  omega
/-- behind an edge the mark and the sign differ as they did ahead of it -/
theorem land_eq (B : BS D nb m) {e : Nat} (he : e < m) {X : Nat} (hX : X < 256) : i_xor (i_xor ((X ^^^ sN D (D 136 e) : Nat) : Int) (rdf D m 0 (D 137 e))) (if 1 < cntE (D 137) (D 137 e) m then raj D m 0 e else 0) = ((X ^^^ sN D (D 137 e) : Nat) : Int) := by
  have B' := B
  obtain ⟨⟨b1, b2⟩, b3, b4, b5⟩ := B
  obtain ⟨⟨f1, f2⟩, f3, f4⟩ := b1.2.2.2.2 e he
  have hp := cnt_pos (f := D 137) (v := D 137 e) (k := e) m he rfl
  have r1 := b2 (D 137 e).toNat (by omega)
  have r2 := (b4 (D 137 e).toNat (by omega)).1
  rw [Int.toNat_of_nonneg f3] at r1 r2
  have r3 := r1.2.2.1 hp
  obtain ⟨s1, s2⟩ := sN_eq B' f1 f2
  obtain ⟨s3, s4⟩ := sN_eq B' f3 f4
  obtain ⟨s5, s6⟩ := sN_eq B' r3 r2
  have hd : rdf D m 0 (D 137 e) = ((sN D (rbs D m (D 137 e)) ^^^ sN D (D 137 e) : Nat) : Int) := by
    unfold rdf
    rw [if_neg (by omega), s5, s3, i_xor_nat (by omega) (by omega)]
  have x1 := xor_256 hX s2
  have x2 := xor_256 s6 s4
  have x3 := xor_256 x1 x2
  rw [hd, i_xor_nat (by omega) (by omega)]
  by_cases c : 1 < cntE (D 137) (D 137 e) m
  · have ha : raj D m 0 e = ((sN D (rbs D m (D 137 e)) ^^^ sN D (D 136 e) : Nat) : Int) := by
      unfold raj
      rw [if_neg (by omega), s5, s1, i_xor_nat (by omega) (by omega)]
    have x4 := xor_256 s6 s2
    rw [if_pos c, ha, i_xor_nat (by omega) (by omega)]
    congr 1
    apply Nat.eq_of_testBit_eq
    intro i
    simp only [Nat.testBit_xor]
    cases X.testBit i <;> cases (sN D (D 136 e)).testBit i <;> cases (sN D (D 137 e)).testBit i <;> cases (sN D (rbs D m (D 137 e))).testBit i <;> rfl
  · have e1 := b5 e he (by omega)
    rw [if_neg c, show (0 : Int) = ((0 : Nat) : Int) from rfl, i_xor_nat (by omega) (by omega), Nat.xor_zero, e1]
    congr 1
    apply Nat.eq_of_testBit_eq
    intro i
    simp only [Nat.testBit_xor]
    cases X.testBit i <;> cases (sN D (D 136 e)).testBit i <;> cases (sN D (D 137 e)).testBit i <;> rfl
def ofN (G D : Sto) : Prop := ∀ z j : Int, ¬ (162 ≤ z ∧ z ≤ 166) → G z j = D z j
def rowB (G D : Sto) (m b : Nat) : Prop := G 163 b = rdf D m 0 b ∧ G 164 b = bB (1 < cntE (D 137) b m) ∧ G 165 b = cntE (D 136) b m ∧ ∀ i : Nat, (i : Int) < cntE (D 136) b m → G 166 (3 * (b : Int) + i) = nthE (D 136) (fun z => z) b m m i
theorem ofN_f (h : ofN G D) (z : Int) (hz : ¬ (162 ≤ z ∧ z ≤ 166)) : G z = D z := funext (fun j => h z j hz)
theorem ofN_m2 (h : ofN G D) : m2 G D := ⟨⟨ofN_f h 131 (by decide), ofN_f h 135 (by decide), ofN_f h 136 (by decide), ofN_f h 137 (by decide), ofN_f h 154 (by decide), ofN_f h 156 (by decide), by rw [ofN_f h 129 (by decide)]⟩, by rw [ofN_f h 129 (by decide)], by rw [ofN_f h 129 (by decide)]⟩
theorem sim_ofN (h : ofN G D) : sim G D := fun z j hz => h z j (by unfold scr at hz; omega)
theorem k272i (d b : Nat) (B : BS D nb m) (hb : b < nb) : ∀ r i (G : Sto), ((i + r : Nat) : Int) = cntE (D 136) b m → ofN G D → G 165 b = cntE (D 136) b m → (∀ j : Nat, j < i → G 166 (3 * (b : Int) + j) = nthE (D 136) (fun z => z) b m m j) → ∃ G', ofN G' D ∧ (∀ z j : Int, ¬ z = 166 → G' z j = G z j) ∧ (∀ j : Int, ¬ (3 * (b : Int) ≤ j ∧ j < 3 * (b : Int) + 3) → G' 166 j = G 166 j) ∧ (∀ j : Nat, (j : Int) < cntE (D 136) b m → G' 166 (3 * (b : Int) + j) = nthE (D 136) (fun z => z) b m m j) ∧ Rn (d + 3) 272 57 [some (2, 129), some (0, (b : Int)), some (0, (i : Int))] [] (Sg xs n G) = Rn (d + 3) 272 2 [some (2, 129), some (0, ((b + 1 : Nat) : Int)), some (0, cntE (D 136) b m)] [] (Sg xs n G') := by
  obtain ⟨⟨b1, b2⟩, b3, b4, b5⟩ := B
  have h8 := b1.2.1
  have hc3 := (b4 b hb).2
  intro r
  induction r with
  | zero =>
    intro i G hi hG h165 h166
    refine ⟨G, hG, fun _ _ _ => rfl, fun _ _ => rfl, fun j hj => h166 j (by omega), ?_⟩
    rw [h272_57, if_pos (inb_t (by omega) (by omega)), h165, if_pos (by omega), w1 (by omega), show (i : Int) = cntE (D 136) b m by omega]
  | succ r ih =>
    intro i G hi hG h165 h166
    obtain ⟨G', a1, a2, a3, a4, a5⟩ := ih (i + 1) (up G 166 (3 * (b : Int) + i) (nthE (D 136) (fun z => z) b m m i)) (by omega) (fun z j hz => by rw [up_ne (by omega)]; exact hG z j hz) (by rw [up_ne (by decide)]; exact h165) (fun j hj => by
      by_cases e : j = i
      · rw [e, up_at]
      · rw [up_ni (by omega)]
        exact h166 j (by omega))
    refine ⟨G', a1, fun z j hz => by rw [a2 z j hz, up_ne hz], fun j hj => by rw [a3 j hj, up_ni (by omega)], a4, ?_⟩
    have e1 := c236n (xs := xs) (n := n) (d + 2) b i (mrk_RG (ofN_m2 hG).1 b1) (by omega)
    rw [ofN_f hG 136 (by decide)] at e1
    rw [h272_57, if_pos (inb_t (by omega) (by omega)), h165, if_neg (by omega), e1, cK0, pR0, h272_82, w32_idP (z := 3 * (b : Int)) (by omega) (by omega), w32_idP (z := 3 * (b : Int) + i) (by omega) (by omega), if_pos (inb_t (by omega) (by omega)), w1 (by omega)]
    exact a5
theorem k272o (d : Nat) (B : BS D nb m) : ∀ r b (G : Sto) o2, b + r = nb → ofN G D → (∀ c : Nat, c < b → rowB G D m c) → ∃ G', ofN G' D ∧ (∀ c : Nat, c < nb → rowB G' D m c) ∧ Rn (d + 3) 272 2 [some (2, 129), some (0, (b : Int)), o2] [] (Sg xs n G) = Rn (d + 3) 272 97 [some (2, 129), some (0, 0), none] [] (Sg xs n G') := by
  have B' := B
  obtain ⟨⟨b1, b2⟩, b3, b4, b5⟩ := B
  have h8 := b1.2.1
  have h16 := b1.2.2.2.1
  intro r
  induction r with
  | zero =>
    intro b G o2 hb hG hR
    obtain rfl : b = nb := by omega
    refine ⟨G, hG, hR, ?_⟩
    rw [h272_2, ofN_f hG 131 (by decide), b1.1, if_pos (by omega)]
  | succ r ih =>
    intro b G o2 hb hG hR
    have hcb := cntE_b (D 136) b m
    have e1 := c239 (xs := xs) (n := n) (d) b 0 (mrk_RG (ofN_m2 hG).1 b1) (mrk_RB (ofN_m2 hG).1 b2) (by omega) (by omega) (by omega)
    rw [m2_df (ofN_m2 hG)] at e1
    let G1 := up G 163 b (rdf D m 0 b)
    have hG1 : ofN G1 D := fun z j hz => by show up G 163 b (rdf D m 0 b) z j = _; rw [up_ne (by omega)]; exact hG z j hz
    have H1 := mrk_RG (ofN_m2 hG1).1 b1
    have e2 := c234 (xs := xs) (n := n) (D := G1) (d + 2) (b : Int) m H1.2.2.1 h16
    rw [ofN_f hG1 137 (by decide)] at e2
    let G2 := up G1 164 b (bB (1 < cntE (D 137) b m))
    have hG2 : ofN G2 D := fun z j hz => by show up G1 164 b (bB (1 < cntE (D 137) b m)) z j = _; rw [up_ne (by omega)]; exact hG1 z j hz
    have H2 := mrk_RG (ofN_m2 hG2).1 b1
    have e3 := c235 (xs := xs) (n := n) (D := G2) (d + 2) (b : Int) m H2.2.2.1 h16
    rw [ofN_f hG2 136 (by decide)] at e3
    let G3 := up G2 165 b (cntE (D 136) b m)
    have hG3 : ofN G3 D := fun z j hz => by show up G2 165 b (cntE (D 136) b m) z j = _; rw [up_ne (by omega)]; exact hG2 z j hz
    have f165 : G3 165 b = cntE (D 136) b m := up_at
    have f164 : G3 164 b = bB (1 < cntE (D 137) b m) := by show up G2 165 b _ 164 b = _; rw [up_ne (by decide)]; exact up_at
    have f163 : G3 163 b = rdf D m 0 b := by show up G2 165 b _ 163 b = _; rw [up_ne (by decide)]; show up G1 164 b _ 163 b = _; rw [up_ne (by decide)]; exact up_at
    have fo : ∀ z j : Int, ¬ j = b ∨ ¬ (163 ≤ z ∧ z ≤ 165) → G3 z j = G z j := by
      intro z j hq
      show up (up (up G 163 b (rdf D m 0 b)) 164 b _) 165 b _ z j = G z j
      unfold up
      rw [if_neg (by omega), if_neg (by omega), if_neg (by omega)]
    obtain ⟨G4, a1, a2, a3, a4, a5⟩ := k272i (xs := xs) (n := n) d b B' (by omega) (cntE (D 136) b m).toNat 0 G3 (by omega) hG3 f165 (fun j hj => by omega)
    have bt : bit01 (bB (1 < cntE (D 137) b m)) = true := by
      unfold bB
      split <;> rfl
    obtain ⟨G', c1, c2, c3⟩ := ih (b + 1) G4 (some (0, cntE (D 136) b m)) (by omega) a1 (by
      intro c hc
      by_cases e : c = b
      · subst e
        exact ⟨by rw [a2 163 _ (by decide)]; exact f163, by rw [a2 164 _ (by decide)]; exact f164, by rw [a2 165 _ (by decide)]; exact f165, a4⟩
      · obtain ⟨q1, q2, q3, q4⟩ := hR c (by omega)
        refine ⟨?_, ?_, ?_, ?_⟩
        · rw [a2 163 _ (by decide), fo 163 _ (by omega)]; exact q1
        · rw [a2 164 _ (by decide), fo 164 _ (by omega)]; exact q2
        · rw [a2 165 _ (by decide), fo 165 _ (by omega)]; exact q3
        · intro i hi
          have := (b4 c (by omega)).2
          rw [a3 _ (by omega), fo 166 _ (by omega)]
          exact q4 i hi)
    refine ⟨G', c1, c2, ?_⟩
    rw [h272_2, ofN_f hG 131 (by decide), b1.1, if_neg (by omega), e1, cK0, pR0, h272_23, if_pos (inb_t (by omega) (by omega))]
    show cK (den (d + 3) 234 [(2, 129), (0, (b : Int))] (Sg xs n G1)) _ = _
    rw [e2, cK0, pR0, h272_34]
    have hif : (if ¬ 1 < cntE (D 137) b m then Rn (d + 3) 272 43 [some (2, 129), some (0, (b : Int)), none] [(0, 0), (0, (b : Int)), (2, 164)] (Sg xs n G1) else Rn (d + 3) 272 43 [some (2, 129), some (0, (b : Int)), none] [(0, 1), (0, (b : Int)), (2, 164)] (Sg xs n G1)) = Rn (d + 3) 272 43 [some (2, 129), some (0, (b : Int)), none] [(0, bB (1 < cntE (D 137) b m)), (0, (b : Int)), (2, 164)] (Sg xs n G1) := by
      by_cases q : 1 < cntE (D 137) b m
      · rw [if_neg (fun w => w q), bB_t q]
      · rw [if_pos q, bB_f q]
    rw [hif, h272_43, bt, Bool.and_true, if_pos (inb_t (by omega) (by omega))]
    show cK (den (d + 3) 235 [(2, 129), (0, (b : Int))] (Sg xs n G2)) _ = _
    rw [e3, cK0, pR0, h272_54, if_pos (inb_t (by omega) (by omega))]
    exact a5.trans c3
def LN (D : Sto) (nb m : Nat) : Prop := (∀ b : Nat, b < nb → rowB D D m b) ∧ ∀ e : Nat, e < m → D 162 e = raj D m 0 e
theorem c272 (d : Nat) (B : BS D nb m) : ∃ G, ofN G D ∧ LN G nb m ∧ den (d + 4) 272 [(2, 129)] (Sg xs n D) = some ((9, 0), Sg xs n G) := by
  have B' := B
  obtain ⟨⟨b1, b2⟩, b3, b4, b5⟩ := B
  have h8 := b1.2.1
  have h16 := b1.2.2.2.1
  have ke : ∀ r e (G : Sto), e + r = m → ofN G D → (∀ c : Nat, c < nb → rowB G D m c) → (∀ k : Nat, k < e → G 162 k = raj D m 0 k) → ∃ G', ofN G' D ∧ (∀ c : Nat, c < nb → rowB G' D m c) ∧ (∀ k : Nat, k < m → G' 162 k = raj D m 0 k) ∧ Rn (d + 3) 272 97 [some (2, 129), some (0, (e : Int)), none] [] (Sg xs n G) = some ((9, 0), Sg xs n G') := by
    intro r
    induction r with
    | zero =>
      intro e G he hG hR hA
      obtain rfl : e = m := by omega
      refine ⟨G, hG, hR, hA, ?_⟩
      rw [h272_97, ofN_f hG 131 (by decide), b1.2.2.1, if_pos (by omega)]
    | succ r ih =>
      intro e G he hG hR hA
      have e1 := c240 (xs := xs) (n := n) d e 0 (mrk_RG (ofN_m2 hG).1 b1) (mrk_RB (ofN_m2 hG).1 b2) (by omega) (by omega) (by omega)
      rw [m2_aj (ofN_m2 hG)] at e1
      obtain ⟨G', a1, a2, a3, a4⟩ := ih (e + 1) (up G 162 e (raj D m 0 e)) (by omega) (fun z j hz => by rw [up_ne (by omega)]; exact hG z j hz) (fun c hc => by
        obtain ⟨q1, q2, q3, q4⟩ := hR c hc
        unfold rowB
        rw [up_ne (by decide), up_ne (by decide), up_ne (by decide)]
        refine ⟨q1, q2, q3, fun i hi => ?_⟩
        rw [up_ne (by decide)]
        exact q4 i hi) (fun k hk => by
        by_cases q : k = e
        · rw [q, up_at]
        · rw [up_ni (by omega)]
          exact hA k (by omega))
      refine ⟨G', a1, a2, a3, ?_⟩
      rw [h272_97, ofN_f hG 131 (by decide), b1.2.2.1, if_neg (by omega), e1, cK0, pR0, h272_118, if_pos (inb_t (by omega) (by omega)), w1 (by omega)]
      exact a4
  obtain ⟨G1, a1, a2, a3⟩ := k272o (xs := xs) (n := n) d B' nb 0 D none (by omega) (fun _ _ _ => rfl) (fun c hc => by omega)
  obtain ⟨G2, c1, c2, c3, c4⟩ := ke m 0 G1 (by omega) a1 a2 (fun k hk => by omega)
  refine ⟨G2, c1, ⟨?_, ?_⟩, ?_⟩
  · intro b hb
    obtain ⟨q1, q2, q3, q4⟩ := c2 b hb
    unfold rowB
    rw [m2_df (ofN_m2 c1), ofN_f c1 137 (by decide), ofN_f c1 136 (by decide)]
    exact ⟨q1, q2, q3, q4⟩
  · intro e he
    rw [m2_aj (ofN_m2 c1)]
    exact c3 e he
  · rw [n272, h272_0]
    exact a3.trans c4
end S68
