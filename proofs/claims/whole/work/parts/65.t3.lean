/-! Twins: far, only, ring, nearest -/
def nrs (f : Int → Int) (ck : Nat) : Nat → Int
  | 0 => -2
  | k + 1 => if ck.testBit k = true ∧ ¬ f k = -1 ∧ (nrs f ck k < 0 ∨ f k < nrs f ck k) then f k else nrs f ck k
theorem nrs_s {f : Int → Int} {ck : Nat} (hf : ∀ k : Nat, k < 8 → -1 ≤ f k) : ∀ k, k ≤ 8 → (nrs f ck k = -2 ∧ ∀ c : Nat, c < k → ck.testBit c = true → f c = -1) ∨ (0 ≤ nrs f ck k ∧ (∃ c : Nat, c < k ∧ ck.testBit c = true ∧ f c = nrs f ck k) ∧ ∀ c : Nat, c < k → ck.testBit c = true → ¬ f c = -1 → nrs f ck k ≤ f c) := by
  intro k
  induction k with
  | zero =>
    intro _
    left
    exact ⟨rfl, fun c hc => by omega⟩
  | succ k ih =>
    intro hk
    have ih := ih (by omega)
    have h0 := hf k (by omega)
    unfold nrs
    by_cases h : ck.testBit k = true ∧ ¬ f k = -1 ∧ (nrs f ck k < 0 ∨ f k < nrs f ck k)
    · rw [if_pos h]
      right
      refine ⟨by omega, ⟨k, by omega, h.1, rfl⟩, fun c hc h1 h2 => ?_⟩
      by_cases e : c = k
      · subst e; exact Int.le_refl _
      · obtain ⟨i1, i2⟩ | ⟨i1, i2, i3⟩ := ih
        · exact absurd (i2 c (by omega) h1) h2
        · have := i3 c (by omega) h1 h2
          omega
    · rw [if_neg h]
      obtain ⟨i1, i2⟩ | ⟨i1, ⟨c0, j1, j2, j3⟩, i3⟩ := ih
      · left
        refine ⟨i1, fun c hc h1 => ?_⟩
        by_cases e : c = k
        · subst e
          apply Classical.byContradiction
          intro q
          exact h ⟨h1, q, Or.inl (by omega)⟩
        · exact i2 c (by omega) h1
      · right
        refine ⟨i1, ⟨c0, by omega, j2, j3⟩, fun c hc h1 h2 => ?_⟩
        by_cases e : c = k
        · subst e
          apply Classical.byContradiction
          intro q
          exact h ⟨h1, h2, Or.inr (by omega)⟩
        · exact i3 c (by omega) h1 h2
section T65
variable {xs : Int → Int} {n : Int × Int} {D : Sto} {nb m : Nat}
theorem FI_b {F T f : Int → Int} {fr but : Int} {k : Nat} (I : FI F T m fr but f k) : ∀ c : Nat, c < 8 → -1 ≤ f c := fun c hc => by
  have := (I c hc).1
  omega
theorem c6n (d : Nat) (b : Int) (H : EG D nb m) : den (d + 1) 6 [(2, 30), (0, b)] (Sg xs n D) = some ((0, bB (0 ≤ b ∧ b < (nb : Int))), Sg xs n D) := by
  rw [c6a, H.1]
theorem c230n (d : Nat) (b : Int) (H : RG D nb m) : den (d + 1) 230 [(2, 129), (0, b)] (Sg xs n D) = some ((0, bB (0 ≤ b ∧ b < (nb : Int))), Sg xs n D) := by
  rw [c230, H.1]
theorem bB_t {p : Prop} [Decidable p] (h : p) : bB p = 1 := by
  unfold bB
  rw [if_pos h]
theorem bB_f {p : Prop} [Decidable p] (h : ¬ p) : bB p = 0 := by
  unfold bB
  rw [if_neg h]
theorem ts_far (R : Rel D) (d : Nat) (a b : Int) : tws xs n (d + 40) 0 160 294 [(0, a), (0, b)] D := by
  have R0 := R
  obtain ⟨nb, m, K, X⟩ := R
  obtain ⟨⟨g1, g2, g3, g4⟩, hB, hS, h46, h45, hRB⟩ := RelK_G K
  have h8 := g1.2.1
  have HN := NX_of K X
  have H0 : RG (up D 129 0 0) nb m := RG_0 g2
  have hM : mrk (up D 129 0 0) D := mrk_v (by decide)
  by_cases ha : 0 ≤ a ∧ a < (nb : Int)
  · by_cases hb : 0 ≤ b ∧ b < (nb : Int)
    · have ea : (a.toNat : Int) = a := Int.toNat_of_nonneg ha.1
      have eb : (b.toNat : Int) = b := Int.toNat_of_nonneg hb.1
      have hp : 2 ^ b.toNat < 256 := p8 (show b.toNat < 8 by omega)
      have e1 := c15 (xs := xs) (n := n) (d + 36) a.toNat (2 ^ b.toNat) HN (by omega) hp
      have e2 := c180 (xs := xs) (n := n) (D := D) (d + 38) b.toNat (by omega)
      rw [ea] at e1
      rw [eb] at e2
      obtain ⟨G, i1, i2, i3⟩ := c292 (xs := xs) (n := n) (d + 37) a b H0 ha.1 (by omega) hb.1 (by omega)
      rw [hM.2.2.1, hM.2.2.2.1, ← ea] at i2
      have ed : dstF (nxD D m) nb (2 ^ b.toNat) nb (2 ^ a.toNat) = if G 168 b = -1 then -2 else G 168 b := by
        apply dst_f g2 (by omega) (Nat.pow_lt_pow_right (by decide) (by omega)) i2
        have := FI_b i2 b.toNat (by omega)
        rw [eb] at this
        by_cases q : G 168 b = -1
        · left
          rw [if_pos q]
          refine ⟨rfl, fun c hc => ?_⟩
          rw [tp_i] at hc
          rw [hc, eb]
          exact q
        · right
          rw [if_neg q]
          refine ⟨by omega, ⟨b.toNat, tp_t.mpr rfl, by rw [eb]⟩, fun c hc _ => ?_⟩
          rw [tp_i] at hc
          rw [hc, eb]
          exact Int.le_refl _
      refine tws_sim R0 (D1 := D) (D2 := G) (a := if G 168 b = -1 then -2 else G 168 b) ?_ ?_ (sim_t (sim_of i1) sim_0)
      · rw [n160, h160_0, c6n (d + 38) a g1, bB_t ha, cK0, pR0, h160_13, if_neg (by decide), c6n (d + 38) b g1, bB_t hb, cK0, pR0, h160_21, if_pos (by decide), e2, cK0, pR0, h160_32, e1, cK0, pR0, h160_35, ed]
      · rw [n294, h294_0, c230n (d + 38) a H0, bB_t ha, cK0, pR0, h294_10, if_neg (by decide), c230n (d + 38) b H0, bB_t hb, cK0, pR0, h294_18, if_pos (by decide), i3, cK0, pR0, h294_29]
        simp only [h294_41, if_sn]
    · refine tws_sim R0 (D1 := D) (D2 := up D 129 0 0) (a := -1) ?_ ?_ sim_0
      · rw [n160, h160_0, c6n (d + 38) a g1, bB_t ha, cK0, pR0, h160_13, if_neg (by decide), c6n (d + 38) b g1, bB_f hb, cK0, pR0, h160_21, if_neg (by decide), h160_24]
      · rw [n294, h294_0, c230n (d + 38) a H0, bB_t ha, cK0, pR0, h294_10, if_neg (by decide), c230n (d + 38) b H0, bB_f hb, cK0, pR0, h294_18, if_neg (by decide), h294_21]
  · refine tws_sim R0 (D1 := D) (D2 := up D 129 0 0) (a := -1) ?_ ?_ sim_0
    · rw [n160, h160_0, c6n (d + 38) a g1, bB_f ha, cK0, pR0, h160_13, if_pos rfl, h160_24]
    · rw [n294, h294_0, c230n (d + 38) a H0, bB_f ha, cK0, pR0, h294_10, if_pos rfl, h294_21]
theorem k296 (d ck : Nat) (hc : D 153 0 = ck) (hc2 : ck < 256) (hnb : D 131 0 = nb) (h8 : nb ≤ 8) : ∀ r k o1, k + r = nb → Rn d 296 26 [some (2, 129), o1, some (0, nrs (D 168) ck k), some (0, (k : Int))] [] (Sg xs n D) = some ((0, nrs (D 168) ck nb), Sg xs n D) := by
  intro r
  induction r with
  | zero =>
    intro k o1 hk
    obtain rfl : k = nb := by omega
    rw [h296_26, hnb, if_pos (by omega)]
  | succ r ih =>
    intro k o1 hk
    have := ih (k + 1) none (by omega)
    rw [h296_26, hnb, if_neg (by omega), hc, tb_val (by omega) (by omega)]
    simp only [h296_74, h296_81, inb_t (show (0 : Int) ≤ (k : Int) by omega) (show (k : Int) < 8 by omega), if_true, w1 (show k < 2147483647 by omega), bB_if1]
    rw [← this, show nrs (D 168) ck (k + 1) = if ck.testBit k = true ∧ ¬ D 168 k = -1 ∧ (nrs (D 168) ck k < 0 ∨ D 168 k < nrs (D 168) ck k) then D 168 k else nrs (D 168) ck k from rfl]
    by_cases c1 : ck.testBit k = true
    · rw [if_pos c1]
      by_cases c2 : D 168 k = -1
      · rw [if_pos c2, if_neg (fun w => w.2.1 c2)]
      · rw [if_neg c2]
        by_cases c3 : nrs (D 168) ck k < 0
        · rw [if_pos c3, if_pos ⟨c1, c2, Or.inl c3⟩]
        · rw [if_neg c3]
          by_cases c4 : D 168 k < nrs (D 168) ck k
          · rw [if_neg (by simp [c4]), if_pos ⟨c1, c2, Or.inr c4⟩]
          · rw [if_pos c4, if_neg (fun w => by omega)]
    · rw [if_neg c1, if_neg (fun w => c1 w.1)]
theorem ts_nearest (R : Rel D) (d : Nat) (b : Int) : tws xs n (d + 40) 0 162 296 [(0, b)] D := by
  have R0 := R
  obtain ⟨nb, m, K, X⟩ := R
  obtain ⟨⟨g1, g2, g3, g4⟩, hB, hS, h46, h45, hRB⟩ := RelK_G K
  have h8 := g1.2.1
  have HN := NX_of K X
  have H0 : RG (up D 129 0 0) nb m := RG_0 g2
  have hM : mrk (up D 129 0 0) D := mrk_v (by decide)
  obtain ⟨ck, c1, c2, c3, c4⟩ := ck0 X.2.2.2.1 h8
  by_cases hb : 0 ≤ b ∧ b < (nb : Int)
  · have eb : (b.toNat : Int) = b := Int.toNat_of_nonneg hb.1
    have e1 := c15 (xs := xs) (n := n) (d + 36) b.toNat ck HN (by omega) c3
    rw [eb] at e1
    obtain ⟨G, i1, i2, i3⟩ := c291 (xs := xs) (n := n) (d + 38) b (-1) H0 hb.1 (by omega)
    rw [hM.2.2.1, hM.2.2.2.1, ← eb] at i2
    have hG := of_RG i1 H0
    have hG2 : G 153 0 = ck := by rw [i1 153 0 (by decide), up_ne (by decide)]; exact c2
    have k1 := k296 (xs := xs) (n := n) (D := G) (d + 39) ck hG2 c3 hG.1 h8 nb 0 (some (0, b)) (by omega)
    have ed : dstF (nxD D m) nb ck nb (2 ^ b.toNat) = nrs (G 168) ck nb := by
      apply dst_f g2 (by omega) c4 i2
      obtain ⟨j1, j2⟩ | ⟨j1, ⟨c0, j2, j3⟩, j4⟩ := nrs_s (f := G 168) (ck := ck) (FI_b i2) nb h8
      · exact Or.inl ⟨j1, fun c hc => j2 c (lt_t c4 hc) hc⟩
      · exact Or.inr ⟨j1, ⟨c0, j3⟩, fun c hc h => j4 c (lt_t c4 hc) hc h⟩
    refine tws_sim R0 (D1 := D) (D2 := G) (a := nrs (G 168) ck nb) ?_ ?_ (sim_t (sim_of i1) sim_0)
    · rw [n162, h162_0, c6n (d + 38) b g1, bB_t hb, cK0, pR0, h162_11, if_neg (by decide), c1, e1, cK0, pR0, h162_32, h162_36, ed]
    · rw [n296, h296_0, c230n (d + 38) b H0, bB_t hb, cK0, pR0, h296_10, if_pos (by decide), i3, cK9]
      show Rn (d + 39) 296 24 [some (2, 129), some (0, b), some (0, -2), none] [] (Sg xs n G) = _
      rw [h296_24]
      exact k1
  · refine tws_sim R0 (D1 := D) (D2 := up D 129 0 0) (a := -1) ?_ ?_ sim_0
    · rw [n162, h162_0, c6n (d + 38) b g1, bB_f hb, cK0, pR0, h162_11, if_pos rfl, h162_36]
    · rw [n296, h296_0, c230n (d + 38) b H0, bB_f hb, cK0, pR0, h296_10, if_neg (by decide)]
theorem bitP_256 (p : Nat → Bool) {k : Nat} (h : k ≤ 8) : bitP p k < 256 := Nat.lt_of_lt_of_le (bitP_lt p k) (by
  have : 2 ^ k ≤ 2 ^ 8 := Nat.pow_le_pow_right (by decide) h
  exact this)
theorem k295 (d b : Nat) (hb : b < nb) (H : RG D nb m) : ∀ r k (G : Sto), k + r = nb → of168 G D → ∃ G', of168 G' D ∧ Rn (d + 3) 295 19 [some (2, 129), some (0, (b : Int)), some (0, ((bitP (fun c => (rchI (nxD D m) nb 0 b nb).testBit c && (rchI (nxD D m) nb 0 c nb).testBit b) k : Nat) : Int)), some (0, (k : Int))] [] (Sg xs n G) = some ((0, ((bitP (fun c => (rchI (nxD D m) nb 0 b nb).testBit c && (rchI (nxD D m) nb 0 c nb).testBit b) nb : Nat) : Int)), Sg xs n G') := by
  have H' := H
  obtain ⟨hnb, h8, hm, h16, hE⟩ := H
  intro r
  induction r with
  | zero =>
    intro k G hk hG
    obtain rfl : k = nb := by omega
    refine ⟨G, hG, ?_⟩
    rw [h295_19, of_f hG 131 (by decide), hnb, if_pos (by omega)]
  | succ r ih =>
    intro k G hk hG
    have hp := p8 (show k < 8 by omega)
    have hbp := bitP_256 (fun c => (rchI (nxD D m) nb 0 b nb).testBit c && (rchI (nxD D m) nb 0 c nb).testBit b) (show k ≤ 8 by omega)
    obtain ⟨G1, a1, a2, a3⟩ := c292 (xs := xs) (n := n) (d + 1) (b : Int) (k : Int) (of_RG hG H') (by omega) (by omega) (by omega) (by omega)
    have hG1 : of168 G1 D := fun z j hz => (a1 z j hz).trans (hG z j hz)
    rw [of_f hG 136 (by decide), of_f hG 137 (by decide)] at a2
    have t1 := rch_f H' (shut := 0) (fun j => no_t) a2 (c := k) (by omega) (by omega)
    have hnext : ∀ (G2 : Sto) (o2 : Option Vv) (v : Nat), of168 G2 D → (bitP (fun c => (rchI (nxD D m) nb 0 b nb).testBit c && (rchI (nxD D m) nb 0 c nb).testBit b) k ||| v = bitP (fun c => (rchI (nxD D m) nb 0 b nb).testBit c && (rchI (nxD D m) nb 0 c nb).testBit b) (k + 1)) → v < 256 → ∃ G', of168 G' D ∧ Rn (d + 3) 295 57 [some (2, 129), some (0, (b : Int)), o2, some (0, (k : Int))] [(0, (v : Int)), (0, ((bitP (fun c => (rchI (nxD D m) nb 0 b nb).testBit c && (rchI (nxD D m) nb 0 c nb).testBit b) k : Nat) : Int))] (Sg xs n G2) = some ((0, ((bitP (fun c => (rchI (nxD D m) nb 0 b nb).testBit c && (rchI (nxD D m) nb 0 c nb).testBit b) nb : Nat) : Int)), Sg xs n G') := by
      intro G2 o2 v hG2 he hv
      obtain ⟨G', b1, b2⟩ := ih (k + 1) G2 (by omega) hG2
      refine ⟨G', b1, ?_⟩
      rw [h295_57, i_or_nat (by omega) (by omega), he, w1 (by omega)]
      exact b2
    rw [h295_19, of_f hG 131 (by decide), hnb, if_neg (by omega), a3, cK0, pR0, h295_36]
    by_cases c1 : G1 168 k = -1
    · have t2 : (rchI (nxD D m) nb 0 b nb).testBit k = false := Bool.eq_false_iff.mpr (fun w => t1.mp w c1)
      obtain ⟨G', b1, b2⟩ := hnext G1 none 0 hG1 (by
        rw [Nat.or_zero]
        show _ = if ((rchI (nxD D m) nb 0 b nb).testBit k && (rchI (nxD D m) nb 0 k nb).testBit b) = true then _ else _
        rw [t2, if_neg (by simp)]) (by decide)
      refine ⟨G', b1, ?_⟩
      rw [if_pos c1, h295_56]
      exact b2
    · have t2 : (rchI (nxD D m) nb 0 b nb).testBit k = true := t1.mpr c1
      obtain ⟨G2, d1, d2, d3⟩ := c292 (xs := xs) (n := n) (d + 1) (k : Int) (b : Int) (of_RG hG1 H') (by omega) (by omega) (by omega) (by omega)
      have hG2 : of168 G2 D := fun z j hz => (d1 z j hz).trans (hG1 z j hz)
      rw [of_f hG1 136 (by decide), of_f hG1 137 (by decide)] at d2
      have t3 := rch_f H' (shut := 0) (fun j => no_t) d2 (c := b) (by omega) (by omega)
      by_cases c2 : G2 168 b = -1
      · have t4 : (rchI (nxD D m) nb 0 k nb).testBit b = false := Bool.eq_false_iff.mpr (fun w => t3.mp w c2)
        obtain ⟨G', b1, b2⟩ := hnext G2 none 0 hG2 (by
          rw [Nat.or_zero]
          show _ = if ((rchI (nxD D m) nb 0 b nb).testBit k && (rchI (nxD D m) nb 0 k nb).testBit b) = true then _ else _
          rw [t4, if_neg (by simp)]) (by decide)
        refine ⟨G', b1, ?_⟩
        rw [if_neg c1, d3, cK0, pR0, h295_46, if_pos c2, h295_56]
        exact b2
      · have t4 : (rchI (nxD D m) nb 0 k nb).testBit b = true := t3.mpr c2
        obtain ⟨G', b1, b2⟩ := hnext G2 (some (0, ((bitP (fun c => (rchI (nxD D m) nb 0 b nb).testBit c && (rchI (nxD D m) nb 0 c nb).testBit b) k : Nat) : Int))) (2 ^ k) hG2 (by
          show _ = if ((rchI (nxD D m) nb 0 b nb).testBit k && (rchI (nxD D m) nb 0 k nb).testBit b) = true then _ else _
          rw [t4, t2, if_pos (by simp)]) hp
        refine ⟨G', b1, ?_⟩
        rw [if_neg c1, d3, cK0, pR0, h295_46, if_neg c2, i_shl_bit (by omega)]
        exact b2
theorem rng_b {nx : Nat → Nat} {b : Nat} : ∀ k, rngI nx nb b k = bitP (fun c => (rchI nx nb 0 b nb).testBit c && (rchI nx nb 0 c nb).testBit b) k := by
  intro k
  induction k with
  | zero => rfl
  | succ k ih =>
    unfold rngI bitP
    rw [ih]
    cases (rchI nx nb 0 b nb).testBit k <;> cases (rchI nx nb 0 k nb).testBit b <;> simp
theorem ts_ring (R : Rel D) (d : Nat) (b : Int) : tws xs n (d + 40) 0 161 295 [(0, b)] D := by
  have R0 := R
  obtain ⟨nb, m, K, X⟩ := R
  obtain ⟨⟨g1, g2, g3, g4⟩, hB, hS, h46, h45, hRB⟩ := RelK_G K
  have h8 := g1.2.1
  have HN := NX_of K X
  have H0 : RG (up D 129 0 0) nb m := RG_0 g2
  have hM : mrk (up D 129 0 0) D := mrk_v (by decide)
  by_cases hb : 0 ≤ b ∧ b < (nb : Int)
  · have eb : (b.toNat : Int) = b := Int.toNat_of_nonneg hb.1
    have e1 := c17 (xs := xs) (n := n) (d + 35) b.toNat HN (by omega)
    rw [eb] at e1
    obtain ⟨G, i1, i2⟩ := k295 (xs := xs) (n := n) (D := up D 129 0 0) (d + 36) b.toNat (by omega) H0 nb 0 (up D 129 0 0) (by omega) (fun _ _ _ => rfl)
    have en : nxD (up D 129 0 0) m = nxD D m := by
      unfold nxD
      rw [hM.2.2.1, hM.2.2.2.1]
    rw [en, eb] at i2
    refine tws_sim R0 (D1 := D) (D2 := G) (a := ((rngI (nxD D m) nb b.toNat nb : Nat) : Int)) ?_ ?_ (sim_t (sim_of i1) sim_0)
    · rw [n161, h161_0, c6n (d + 38) b g1, bB_t hb, cK0, pR0, h161_11, if_neg (by decide), e1, cK0, pR0, h161_25, h161_29]
    · rw [n295, h295_0, c230n (d + 38) b H0, bB_t hb, cK0, pR0, h295_10, if_pos (by decide), rng_b]
      exact i2
  · refine tws_sim R0 (D1 := D) (D2 := up D 129 0 0) (a := -1) ?_ ?_ sim_0
    · rw [n161, h161_0, c6n (d + 38) b g1, bB_f hb, cK0, pR0, h161_11, if_pos rfl, h161_29]
    · rw [n295, h295_0, c230n (d + 38) b H0, bB_f hb, cK0, pR0, h295_10, if_neg (by decide)]
def onP (nx : Nat → Nat) (nb b : Nat) (c : Nat) : Bool := decide (c = b) || !(rchI nx nb (2 ^ c) 0 nb).testBit b
theorem k293 (d b : Nat) (hb : b < nb) (H : RG D nb m) : ∀ r k (G : Sto), k + r = nb → of168 G D → ∃ G', of168 G' D ∧ Rn (d + 3) 293 31 [some (2, 129), some (0, (b : Int)), some (0, ((bitP (onP (nxD D m) nb b) k : Nat) : Int)), some (0, (k : Int))] [] (Sg xs n G) = some ((0, ((bitP (onP (nxD D m) nb b) nb : Nat) : Int)), Sg xs n G') := by
  have H' := H
  obtain ⟨hnb, h8, hm, h16, hE⟩ := H
  intro r
  induction r with
  | zero =>
    intro k G hk hG
    obtain rfl : k = nb := by omega
    refine ⟨G, hG, ?_⟩
    rw [h293_31, of_f hG 131 (by decide), hnb, if_pos (by omega)]
  | succ r ih =>
    intro k G hk hG
    have hp := p8 (show k < 8 by omega)
    have hbp := bitP_256 (onP (nxD D m) nb b) (show k ≤ 8 by omega)
    obtain ⟨G1, a1, a2, a3⟩ := c291 (xs := xs) (n := n) (d + 2) 0 (k : Int) (of_RG hG H') (by omega) (by omega)
    have hG1 : of168 G1 D := fun z j hz => (a1 z j hz).trans (hG z j hz)
    rw [of_f hG 136 (by decide), of_f hG 137 (by decide)] at a2
    obtain ⟨G', b1, b2⟩ := ih (k + 1) G1 (by omega) hG1
    refine ⟨G', b1, ?_⟩
    rw [h293_31, of_f hG 131 (by decide), hnb, if_neg (by omega), a3, cK9]
    show Rn (d + 3) 293 47 [some (2, 129), some (0, (b : Int)), some (0, ((bitP (onP (nxD D m) nb b) k : Nat) : Int)), some (0, (k : Int))] [] (Sg xs n G1) = _
    rw [← b2, h293_47]
    simp only [h293_63, h293_70, i_shl_bit (show k < 31 by omega), w1 (show k < 2147483647 by omega), inb_t (show (0 : Int) ≤ (b : Int) by omega) (show (b : Int) < 8 by omega), if_true]
    rw [i_or_nat (by omega) (by omega), show (0 : Int) = ((0 : Nat) : Int) from rfl, i_or_nat (by omega) (by omega), Nat.or_zero]
    have es : bitP (onP (nxD D m) nb b) (k + 1) = if onP (nxD D m) nb b k = true then bitP (onP (nxD D m) nb b) k ||| 2 ^ k else bitP (onP (nxD D m) nb b) k := rfl
    by_cases c1 : (k : Int) = (b : Int)
    · have : onP (nxD D m) nb b k = true := by
        unfold onP
        rw [show k = b by omega]
        simp
      rw [es, if_pos this, if_pos c1]
    · have t1 := rch_f (start := 0) H' (shut := 2 ^ k) (fun j => tp_i) a2 (c := b) (by omega) (by omega)
      rw [if_neg c1]
      by_cases c2 : G1 168 b = -1
      · have t2 : (rchI (nxD D m) nb (2 ^ k) 0 nb).testBit b = false := Bool.eq_false_iff.mpr (fun w => t1.mp w c2)
        have : onP (nxD D m) nb b k = true := by
          unfold onP
          rw [t2]
          simp
        rw [es, if_pos this, if_neg (by simp [c2])]
      · have t2 : (rchI (nxD D m) nb (2 ^ k) 0 nb).testBit b = true := t1.mpr c2
        have : ¬ onP (nxD D m) nb b k = true := by
          unfold onP
          rw [t2]
          simp
          omega
        rw [es, if_neg this, if_pos c2]
theorem onl_b {nx : Nat → Nat} {b : Nat} (hb : b < nb) : onlI nx nb b nb = bitP (onP nx nb b) nb := by
  have key : ∀ k j, (onlI nx nb b k).testBit j = true ↔ j = b ∨ (j < k ∧ ¬ (rchI nx nb (2 ^ j) 0 nb).testBit b = true) := by
    intro k
    induction k with
    | zero =>
      intro j
      unfold onlI
      rw [tp_t]
      omega
    | succ k ih =>
      intro j
      unfold onlI
      by_cases h : (rchI nx nb (2 ^ k) 0 nb).testBit b = true
      · rw [if_pos h, ih]
        constructor
        · intro w
          obtain w | w := w
          · exact Or.inl w
          · exact Or.inr ⟨by omega, w.2⟩
        · intro w
          obtain w | w := w
          · exact Or.inl w
          · by_cases e : j = k
            · subst e; exact absurd h w.2
            · exact Or.inr ⟨by omega, w.2⟩
      · rw [if_neg h, or_t, ih, tp_t]
        constructor
        · intro w
          obtain (w | w) | w := w
          · exact Or.inl w
          · exact Or.inr ⟨by omega, w.2⟩
          · subst w; exact Or.inr ⟨by omega, h⟩
        · intro w
          obtain w | w := w
          · exact Or.inl (Or.inl w)
          · by_cases e : k = j
            · exact Or.inr e
            · exact Or.inl (Or.inr ⟨by omega, w.2⟩)
  apply bits_ex
  intro j
  rw [key, bitP_t]
  unfold onP
  rw [Bool.or_eq_true, decide_eq_true_eq, Bool.not_eq_true']
  constructor
  · intro w
    obtain w | w := w
    · exact ⟨by omega, Or.inl w⟩
    · exact ⟨w.1, Or.inr (Bool.eq_false_iff.mpr w.2)⟩
  · intro w
    obtain ⟨w1, w2 | w2⟩ := w
    · exact Or.inl w2
    · exact Or.inr ⟨w1, Bool.eq_false_iff.mp w2⟩
theorem ts_only (R : Rel D) (d : Nat) (b : Int) : tws xs n (d + 40) 0 159 293 [(0, b)] D := by
  have R0 := R
  obtain ⟨nb, m, K, X⟩ := R
  obtain ⟨⟨g1, g2, g3, g4⟩, hB, hS, h46, h45, hRB⟩ := RelK_G K
  have h8 := g1.2.1
  have HN := NX_of K X
  have H0 : RG (up D 129 0 0) nb m := RG_0 g2
  have hM : mrk (up D 129 0 0) D := mrk_v (by decide)
  by_cases hb : 0 ≤ b ∧ b < (nb : Int)
  · have eb : (b.toNat : Int) = b := Int.toNat_of_nonneg hb.1
    have e1 := c16 (xs := xs) (n := n) (d + 35) b.toNat HN (by omega)
    rw [eb] at e1
    obtain ⟨G, i1, i2, i3⟩ := c292 (xs := xs) (n := n) (d + 37) 0 b H0 (by omega) (by omega) hb.1 (by omega)
    rw [hM.2.2.1, hM.2.2.2.1] at i2
    have t1 := rch_f (start := 0) g2 (shut := 0) (fun j => no_t) i2 (c := b.toNat) (by omega) (by omega)
    rw [eb] at t1
    have HG := of_RG i1 H0
    have en : nxD G m = nxD D m := by
      unfold nxD
      rw [of_f i1 136 (by decide), of_f i1 137 (by decide), hM.2.2.1, hM.2.2.2.1]
    by_cases c1 : G 168 b = -1
    · rw [if_neg (fun w => t1.mp w c1)] at e1
      refine tws_sim R0 (D1 := D) (D2 := G) (a := 0) ?_ ?_ (sim_t (sim_of i1) sim_0)
      · rw [n159, h159_0, c6n (d + 38) b g1, bB_t hb, cK0, pR0, h159_11, if_neg (by decide), e1, cK0, pR0, h159_25, h159_29]
      · rw [n293, h293_0, c230n (d + 38) b H0, bB_t hb, cK0, pR0, h293_10, if_pos (by decide), i3, cK0, pR0, h293_21, if_neg (by simp [c1])]
    · rw [if_pos (t1.mpr c1), onl_b (by omega)] at e1
      obtain ⟨G', j1, j2⟩ := k293 (xs := xs) (n := n) (D := G) (d + 36) b.toNat (by omega) HG nb 0 G (by omega) (fun _ _ _ => rfl)
      rw [eb, en] at j2
      refine tws_sim R0 (D1 := D) (D2 := G') (a := ((bitP (onP (nxD D m) nb b.toNat) nb : Nat) : Int)) ?_ ?_ (sim_t (sim_of j1) (sim_t (sim_of i1) sim_0))
      · rw [n159, h159_0, c6n (d + 38) b g1, bB_t hb, cK0, pR0, h159_11, if_neg (by decide), e1, cK0, pR0, h159_25, h159_29]
      · rw [n293, h293_0, c230n (d + 38) b H0, bB_t hb, cK0, pR0, h293_10, if_pos (by decide), i3, cK0, pR0, h293_21, if_pos c1]
        exact j2
  · refine tws_sim R0 (D1 := D) (D2 := up D 129 0 0) (a := -1) ?_ ?_ sim_0
    · rw [n159, h159_0, c6n (d + 38) b g1, bB_f hb, cK0, pR0, h159_11, if_pos rfl, h159_29]
    · rw [n293, h293_0, c230n (d + 38) b H0, bB_f hb, cK0, pR0, h293_10, if_neg (by decide)]
end T65
