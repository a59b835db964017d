/-! Twins: cover -/
theorem sum_add (f : Nat → Int) (a : Nat) : ∀ b, sumN f (a + b) = sumN f a + sumN (fun j => f (a + j)) b := by
  intro b
  induction b with
  | zero => show sumN f a = sumN f a + 0; omega
  | succ b ih =>
    show sumN f (a + b) + f (a + b) = sumN f a + (sumN (fun j => f (a + j)) b + f (a + b))
    rw [ih]
    omega
theorem sum_flat (g : Nat → Nat → Int) : ∀ k, sumN (fun i => g (i / 8) (i % 8)) (8 * k) = sumN (fun e => sumN (fun b => g e b) 8) k := by
  intro k
  induction k with
  | zero => rfl
  | succ k ih =>
    rw [show 8 * (k + 1) = 8 * k + 8 by omega, sum_add, ih]
    show _ = sumN (fun e => sumN (fun b => g e b) 8) k + sumN (fun b => g k b) 8
    congr 1
    apply sumN_ex
    intro j hj
    show g ((8 * k + j) / 8) ((8 * k + j) % 8) = g k j
    rw [show (8 * k + j) / 8 = k by omega, show (8 * k + j) % 8 = j by omega]
theorem sum_z {f : Nat → Int} : ∀ k, (∀ j, j < k → f j = 0) → sumN f k = 0 := by
  intro k
  induction k with
  | zero => intro _; rfl
  | succ k ih =>
    intro h
    unfold sumN
    rw [ih (fun j hj => h j (by omega)), h k (by omega)]
    rfl
theorem sum_cut {f : Nat → Int} {m K : Nat} (hm : m ≤ K) (h : ∀ j, m ≤ j → j < K → f j = 0) : sumN f K = sumN f m := by
  have := sum_add f m (K - m)
  rw [show m + (K - m) = K by omega] at this
  rw [this, sum_z (K - m) (fun j hj => h (m + j) (by omega) (by omega))]
  omega
theorem sum_plus (f g : Nat → Int) : ∀ k, sumN (fun j => f j + g j) k = sumN f k + sumN g k := by
  intro k
  induction k with
  | zero => rfl
  | succ k ih =>
    show sumN (fun j => f j + g j) k + (f k + g k) = (sumN f k + f k) + (sumN g k + g k)
    rw [ih]
    omega
theorem sum_swap (f : Nat → Nat → Int) (q : Nat) : ∀ p, sumN (fun a => sumN (fun b => f a b) q) p = sumN (fun b => sumN (fun a => f a b) p) q := by
  intro p
  induction p with
  | zero => exact (sum_z q (fun j _ => rfl)).symm
  | succ p ih =>
    show sumN (fun a => sumN (fun b => f a b) q) p + sumN (fun b => f p b) q = sumN (fun b => sumN (fun a => f a b) p + f p b) q
    rw [ih, sum_plus]
theorem sum_c (c : Int) : ∀ k : Nat, sumN (fun _ => c) k = c * k := by
  intro k
  induction k with
  | zero => simp [sumN]
  | succ k ih =>
    unfold sumN
    rw [ih, Int.natCast_succ, Int.mul_add, Int.mul_one]
theorem cntP_sum (p : Nat → Bool) : ∀ k, ((cntP p k : Nat) : Int) = sumN (fun j => bB (p j = true)) k := by
  intro k
  induction k with
  | zero => rfl
  | succ k ih =>
    unfold cntP sumN
    rw [← ih]
    unfold bB
    split <;> omega
theorem cntE_sum (f : Int → Int) (v : Int) : ∀ k, cntE f v k = sumN (fun j => bB (f j = v)) k := by
  intro k
  induction k with
  | zero => rfl
  | succ k ih =>
    unfold cntE sumN
    rw [ih]
    rfl
def kpS (G D : Sto) : Prop := ∀ z j : Int, ¬ (157 ≤ z ∧ z ≤ 161) → ¬ (z = 129 ∧ (j = 55 ∨ j = 56)) → ¬ z = 167 → G z j = D z j
def inB (D : Sto) (nb m ck e b : Nat) : Bool := decide (0 ≤ caV D nb m ck e b) && decide (caV D nb m ck e b ≤ D 131 3)
def qC (D : Sto) (nb m ck i : Nat) : Bool := qP (D 137) nb m i && inB D nb m ck (i / 8) (i % 8)
/-- slips that don't look right, into the blocks of a set -/
def cwD (D : Sto) (nb m S : Nat) : Int := sumN (fun b => sumN (fun e => bB (S.testBit b = true ∧ ¬ D 137 e = b ∧ ¬ xD D m e b = 0)) m) nb
section S75
variable {xs : Int → Int} {n : Int × Int} {D G : Sto} {nb m : Nat}
theorem kp_z (h : kpS G D) (z j : Int) (h1 : ¬ (157 ≤ z ∧ z ≤ 161)) (h2 : ¬ z = 129) (h3 : ¬ z = 167) : G z j = D z j := h z j h1 (fun w => h2 w.1) h3
theorem kp_f (h : kpS G D) (z : Int) (h1 : ¬ (157 ≤ z ∧ z ≤ 161)) (h2 : ¬ z = 129) (h3 : ¬ z = 167) : G z = D z := funext (fun j => kp_z h z j h1 h2 h3)
theorem kp_m2 (h : kpS G D) : m2 G D := ⟨⟨kp_f h 131 (by decide) (by decide) (by decide), kp_f h 135 (by decide) (by decide) (by decide), kp_f h 136 (by decide) (by decide) (by decide), kp_f h 137 (by decide) (by decide) (by decide), kp_f h 154 (by decide) (by decide) (by decide), kp_f h 156 (by decide) (by decide) (by decide), h 129 45 (by decide) (by decide) (by decide)⟩, h 129 46 (by decide) (by decide) (by decide), h 129 47 (by decide) (by decide) (by decide)⟩
theorem kp_LN (h : kpS G D) (L : LN D nb m) : LN G nb m := by
  constructor
  · intro b hb
    have := L.1 b hb
    unfold rowB at this ⊢
    rw [kp_f h 163 (by decide) (by decide) (by decide), kp_f h 164 (by decide) (by decide) (by decide), kp_f h 165 (by decide) (by decide) (by decide), kp_f h 166 (by decide) (by decide) (by decide), m2_df (kp_m2 h), (kp_m2 h).1.2.2.1, (kp_m2 h).1.2.2.2.1]
    exact this
  · intro e he
    rw [kp_f h 162 (by decide) (by decide) (by decide), m2_aj (kp_m2 h)]
    exact L.2 e he
theorem caV_m {D1 : Sto} (h : m2 D1 D) (ck e b : Nat) : caV D1 nb m ck e b = caV D nb m ck e b := by
  unfold caV
  rw [nxD_m h, xD_m h]
theorem inB_m {D1 : Sto} (h : m2 D1 D) (ck e b : Nat) : inB D1 nb m ck e b = inB D nb m ck e b := by
  unfold inB
  rw [caV_m h, h.1.1]
theorem kp_S {G' : Sto} (h1 : ofS G' G) (h2 : kpS G D) : kpS G' D := fun z j a b c => (h1 z j a b).trans (h2 z j a b c)
theorem sim_kp (h : kpS G D) : sim G D := fun z j hz => h z j (by unfold scr at hz; omega) (by unfold scr at hz; omega) (by unfold scr at hz; omega)
theorem c282 (d e b ck : Nat) (B : BS D nb m) (L : LN D nb m) (he : e < m) (hb : b < nb) (hc : ck < 2 ^ nb) : ∃ G, ofS G D ∧ den (d + 31) 282 [(2, 129), (0, (e : Int)), (0, (b : Int)), (0, (ck : Int))] (Sg xs n D) = some ((0, bB (inB D nb m ck e b = true)), Sg xs n G) := by
  obtain ⟨G, a1, a2⟩ := c277 (xs := xs) (n := n) (G := D) d B L (fun _ _ _ _ => rfl) e b ck he hb hc
  have hr : ret01 282 0 = true ∧ ret01 282 1 = true := ⟨rfl, rfl⟩
  refine ⟨G, a1, ?_⟩
  rw [n282, h282_0, a2, cK0, pR0, h282_7, ofS_z a1 131 3 (by decide) (by decide), h282_29]
  simp only [h282_30, hr, if_true]
  by_cases c1 : caV D nb m ck e b < 0
  · rw [if_pos c1, bB_f (by unfold inB; simp; omega)]
  · rw [if_neg c1]
    by_cases c2 : D 131 3 < caV D nb m ck e b
    · rw [if_pos c2, bB_f (by unfold inB; simp; omega)]
    · rw [if_neg c2, bB_t (by unfold inB; simp; omega)]
theorem qP_t {T : Int → Int} {k : Nat} : qP T nb m k = true ↔ k / 8 < m ∧ k % 8 < nb ∧ ¬ T ((k / 8 : Nat) : Int) = ((k % 8 : Nat) : Int) := by
  unfold qP
  simp [and_assoc]
theorem c266q (d k : Nat) (H : RG D nb m) : den (d + 2) 266 [(2, 129), (0, ((k / 8 : Nat) : Int)), (0, ((k % 8 : Nat) : Int))] (Sg xs n D) = some ((0, bB (qP (D 137) nb m k = true)), Sg xs n D) := by
  rw [c266' d _ _ H]
  have hi : ((0 ≤ ((k / 8 : Nat) : Int) ∧ ((k / 8 : Nat) : Int) < (m : Int)) ∧ (0 ≤ ((k % 8 : Nat) : Int) ∧ ((k % 8 : Nat) : Int) < (nb : Int)) ∧ ¬ D 137 ((k / 8 : Nat) : Int) = ((k % 8 : Nat) : Int)) ↔ qP (D 137) nb m k = true := by
    rw [qP_t]
    constructor
    · intro h; exact ⟨by omega, by omega, h.2.2⟩
    · intro h; exact ⟨by omega, by omega, h.2.2⟩
  by_cases q : qP (D 137) nb m k = true
  · rw [bB_t q, bB_t (hi.mpr q)]
  · rw [bB_f q, bB_f (fun w => q (hi.mp w))]
theorem k283 (d ck : Nat) (B : BS D nb m) (L : LN D nb m) (hc : ck < 2 ^ nb) : ∀ r k (G : Sto), k + r = 128 → kpS G D → (∀ i : Nat, i < k → G 167 i = bB (qC D nb m ck i = true)) → ∃ G', kpS G' D ∧ (∀ i : Nat, i < 128 → G' 167 i = bB (qC D nb m ck i = true)) ∧ Rn (d + 32) 283 8 [some (2, 129), some (0, (ck : Int)), some (0, sumN (fun i => bB (qC D nb m ck i = true)) k), some (0, (k : Int))] [] (Sg xs n G) = some ((0, sumN (fun i => bB (qC D nb m ck i = true)) 128), Sg xs n G') := by
  intro r
  induction r with
  | zero =>
    intro k G hk hG h167
    obtain rfl : k = 128 := by omega
    refine ⟨G, hG, h167, ?_⟩
    rw [h283_8, if_pos (by decide)]
  | succ r ih =>
    intro k G hk hG h167
    have hd := dv8 k (by omega)
    have sb := sumB_b (fun i => qC D nb m ck i = true) k
    have tail : ∀ (G1 : Sto) (k2 : Int), kpS G1 D → (∀ i : Nat, i < k → G1 167 i = bB (qC D nb m ck i = true)) → k2 = bB (qC D nb m ck k = true) → ∃ G', kpS G' D ∧ (∀ i : Nat, i < 128 → G' 167 i = bB (qC D nb m ck i = true)) ∧ Rn (d + 32) 283 56 [some (2, 129), some (0, (ck : Int)), some (0, sumN (fun i => bB (qC D nb m ck i = true)) k), some (0, (k : Int))] [(0, k2), (0, (k : Int)), (2, 167)] (Sg xs n G1) = some ((0, sumN (fun i => bB (qC D nb m ck i = true)) 128), Sg xs n G') := by
      intro G1 k2 hG1 h1 hk2
      have hk01 := bB_01 (qC D nb m ck k = true)
      have hbit : bit01 k2 = true := by
        rw [hk2]
        unfold bB
        split <;> rfl
      obtain ⟨G', a1, a2, a3⟩ := ih (k + 1) (up G1 167 k k2) (by omega) (fun z j x1 x2 x3 => by rw [up_ne x3]; exact hG1 z j x1 x2 x3) (fun i hi => by
        by_cases q : i = k
        · rw [q, up_at, hk2]
        · rw [up_ni (by omega)]
          exact h1 i (by omega))
      refine ⟨G', a1, a2, ?_⟩
      rw [h283_56, hbit, Bool.and_true, inb_t (show (0 : Int) ≤ (k : Int) by omega) (show (k : Int) < 128 by omega), if_pos rfl, if_pos rfl, up_at]
      simp only [h283_72, w1 (show k < 2147483647 by omega)]
      rw [← a3]
      show _ = Rn (d + 32) 283 8 [some (2, 129), some (0, (ck : Int)), some (0, sumN (fun i => bB (qC D nb m ck i = true)) k + bB (qC D nb m ck k = true)), some (0, ((k + 1 : Nat) : Int))] [] (Sg xs n (up G1 167 k k2))
      rw [w32_idP (by omega) (by omega), w32_idP (by omega) (by omega), ← hk2]
      by_cases q : k2 = 0
      · rw [if_pos q, q]
      · rw [if_neg q, show k2 = 1 by omega]
    rw [h283_8, if_neg (by omega), hd.1, hd.2, z8, if_pos rfl, if_pos rfl, c266q (d + 30) k (mrk_RG (kp_m2 hG).1 B.1.1), cK0, pR0, h283_32, bB_if, (kp_m2 hG).1.2.2.2.1, hd.1, hd.2, z8, if_pos rfl, if_pos rfl, h283_55]
    by_cases q : qP (D 137) nb m k = true
    · obtain ⟨q1, q2, q3⟩ := qP_t.mp q
      obtain ⟨G1, b1, b2⟩ := c282 (xs := xs) (n := n) (D := G) (d + 1) (k / 8) (k % 8) ck (m2_BS (kp_m2 hG) B) (kp_LN hG L) q1 q2 hc
      rw [inB_m (kp_m2 hG)] at b2
      rw [if_pos q, b2, cK0, pR0, h283_48, bB_if, h283_55]
      have f167 : ∀ i : Nat, i < k → G1 167 i = bB (qC D nb m ck i = true) := fun i hi => by rw [ofS_z b1 167 _ (by decide) (by decide)]; exact h167 i hi
      by_cases w : inB D nb m ck (k / 8) (k % 8) = true
      · rw [if_pos w]
        exact tail G1 1 (kp_S b1 hG) f167 (bB_t (by unfold qC; rw [q, w]; rfl)).symm
      · rw [if_neg w]
        exact tail G1 0 (kp_S b1 hG) f167 (bB_f (by unfold qC; rw [q, Bool.true_and]; exact w)).symm
    · rw [if_neg q]
      exact tail G 0 hG h167 (bB_f (fun w => by unfold qC at w; rw [Bool.and_eq_true] at w; exact q w.1)).symm
theorem c283 (d ck : Nat) (B : BS D nb m) (hc : ck < 2 ^ nb) : ∃ D1 G, (ofN D1 D ∧ LN D1 nb m ∧ BS D1 nb m) ∧ kpS G D1 ∧ (∀ i : Nat, i < 128 → G 167 i = bB (qC D1 nb m ck i = true)) ∧ den (d + 33) 283 [(2, 129), (0, (ck : Int))] (Sg xs n D) = some ((0, sumN (fun i => bB (qC D1 nb m ck i = true)) 128), Sg xs n G) := by
  obtain ⟨D1, a1, a2, a3⟩ := c272 (xs := xs) (n := n) (d + 28) B
  have B1 := m2_BS (ofN_m2 a1) B
  obtain ⟨G, b1, b2, b3⟩ := k283 (xs := xs) (n := n) d ck B1 a2 hc 128 0 D1 (by omega) (fun _ _ _ _ _ => rfl) (fun i hi => by omega)
  refine ⟨D1, G, ⟨a1, a2, B1⟩, b1, b2, ?_⟩
  rw [n283, h283_0, a3, cK9]
  show Rn (d + 32) 283 6 [some (2, 129), some (0, (ck : Int)), some (0, 0), none] [] (Sg xs n D1) = _
  rw [h283_6]
  exact b3
/-- caught within the limit: the blocks from which one is forced into the checks -/
theorem ca_in {ck e b lim : Nat} (hc : ck < 2 ^ nb) (hb : b < nb) (hl : 1 ≤ lim) : (0 ≤ caV D nb m ck e b ∧ caV D nb m ck e b ≤ (lim : Int)) ↔ ¬ xD D m e b = 0 ∧ (frcI (nxD D m) nb ck (min (lim - 1) nb)).testBit b = true := by
  unfold caV ceX
  by_cases x : xD D m e b = 0
  · rw [if_pos x, Lv_n (Nat.two_pow_pos nb) hb (fun k => by rw [frc_0, Nat.zero_testBit]; simp)]
    constructor
    · intro h; omega
    · intro h; exact absurd x h.1
  · rw [if_neg x]
    obtain ⟨i1, i2⟩ | ⟨k, i1, i2, i3, i4⟩ := Lv_sp (nx := nxD D m) hc hb
    · rw [i1]
      constructor
      · intro h; omega
      · intro h; exact absurd h.2 (i2 _)
    · rw [i2]
      constructor
      · intro h; exact ⟨x, frc_le (by omega) i3⟩
      · intro h
        have : k ≤ min (lim - 1) nb := by
          apply Classical.byContradiction
          intro q
          exact i4 _ (by omega) h.2
        omega
theorem qC_sum (H : RG D nb m) {ck lim : Nat} (hc : ck < 2 ^ nb) (hl0 : nb = 0 ∨ D 131 3 = lim) (hl1 : 1 ≤ lim) : sumN (fun i => bB (qC D nb m ck i = true)) 128 = cwD D nb m (frcI (nxD D m) nb ck (min (lim - 1) nb)) := by
  have h8 := H.2.1
  have h16 := H.2.2.2.1
  have e1 := sum_flat (fun e b => bB ((decide (e < m) && decide (b < nb) && !decide (D 137 (e : Int) = (b : Int)) && inB D nb m ck e b) = true)) 16
  have e2 : sumN (fun i => bB (qC D nb m ck i = true)) 128 = sumN (fun e => sumN (fun b => bB ((decide (e < m) && decide (b < nb) && !decide (D 137 (e : Int) = (b : Int)) && inB D nb m ck e b) = true)) 8) 16 := e1
  rw [e2, sum_cut (m := m) h16 (fun j hj _ => sum_z 8 (fun b _ => bB_f (by simp; omega)))]
  unfold cwD
  refine Eq.trans ?_ (sum_swap (fun b e => bB ((frcI (nxD D m) nb ck (min (lim - 1) nb)).testBit b = true ∧ ¬ D 137 e = b ∧ ¬ xD D m e b = 0)) m nb).symm
  apply sumN_ex
  intro e he
  rw [sum_cut (m := nb) h8 (fun j hj _ => bB_f (by simp; omega))]
  apply sumN_ex
  intro b hb
  have t := ca_in (D := D) (m := m) (e := e) hc hb hl1
  have hl : D 131 3 = lim := by
    obtain z | z := hl0
    · omega
    · exact z
  have i1 : (decide (e < m) && decide (b < nb) && !decide (D 137 (e : Int) = (b : Int)) && inB D nb m ck e b) = true ↔ ((frcI (nxD D m) nb ck (min (lim - 1) nb)).testBit b = true ∧ ¬ D 137 e = b ∧ ¬ xD D m e b = 0) := by
    unfold inB
    rw [hl]
    simp only [Bool.and_eq_true, decide_eq_true_eq, Bool.not_eq_true', decide_eq_false_iff_not]
    rw [t]
    constructor
    · intro h; exact ⟨h.2.2, h.1.2, h.2.1⟩
    · intro h; exact ⟨⟨⟨he, hb⟩, h.2.1⟩, h.2.2, h.1⟩
  by_cases q : (decide (e < m) && decide (b < nb) && !decide (D 137 (e : Int) = (b : Int)) && inB D nb m ck e b) = true
  · rw [bB_t q, bB_t (i1.mp q)]
  · rw [bB_f q, bB_f (fun w => q (i1.mpr w))]
/-- the class's count -/
theorem wr_sum (K : RelK D nb m) (X : RelX D nb m) (S : Nat) : sumN (wrS (tkS D) m S) nb = cwD D nb m S := by
  obtain ⟨g, hB, hS, hR⟩ := tk_rel K
  unfold cwD
  apply sumN_ex
  intro b hb
  unfold wrS
  by_cases q : S.testBit b = true
  · rw [if_pos q, g.2.2.2 b hb, cntP_sum, cntE_sum, ← Int.one_mul (m : Int), ← sum_c 1 m]
    have key : sumN (fun _ => (1 : Int)) m = sumN (fun e => bB (S.testBit b = true ∧ ¬ D 137 e = b ∧ ¬ xD D m e b = 0)) m + sumN (fun e => bB (tkS D 137 e = (b : Int))) m + sumN (fun e => bB (lrP (tkS D) b e = true)) m := by
      rw [← sum_plus, ← sum_plus]
      apply sumN_ex
      intro e he
      have t := tk_lr K X he hb
      have t2 : tkS D 137 e = D 137 e := tk_ne (by decide) (by decide)
      have t3 : tkS D 32 e = D 137 e := by rw [(g.2.2.1 e he).2]; exact t2
      have t4 : lrP (tkS D) b e = true ↔ ¬ D 137 e = b ∧ xD D m e b = 0 := by
        unfold lrP
        rw [Bool.and_eq_true, decide_eq_true_eq, decide_eq_true_eq, t3, t]
      rw [t2]
      by_cases c1 : D 137 e = b
      · rw [bB_t c1, bB_f (fun w => w.2.1 c1), bB_f (fun w => (t4.mp w).1 c1)]
        rfl
      · by_cases c2 : xD D m e b = 0
        · rw [bB_f c1, bB_f (fun w => w.2.2 c2), bB_t (t4.mpr ⟨c1, c2⟩)]
          rfl
        · rw [bB_f c1, bB_t ⟨q, c1, c2⟩, bB_f (fun w => c2 (t4.mp w).2)]
          rfl
    omega
  · rw [if_neg q]
    exact (sum_z m (fun e _ => bB_f (fun w => q w.1))).symm
end S75
