/-! Twins: checks -/
theorem bcn_top : (List.range 9).all (fun k => (List.range (2 ^ k)).all (fun x => decide (bcn (2 ^ k - 1) ≤ bcn x → x = 2 ^ k - 1))) = true := by decide +kernel
theorem bcn_max {k x : Nat} (hk : k ≤ 8) (hx : x < 2 ^ k) (h : bcn (2 ^ k - 1) ≤ bcn x) : x = 2 ^ k - 1 := by
  have t1 := List.all_eq_true.mp bcn_top k (List.mem_range.mpr (by omega))
  have t2 := List.all_eq_true.mp t1 x (List.mem_range.mpr hx)
  exact of_decide_eq_true t2 h
def fwC (gd : Nat → Bool) : Nat → Nat → Nat
  | 0, f => f
  | k + 1, f => fwC gd k (if bcn k ≤ bcn f ∧ gd k = true then k else f)
def fwU (gd : Nat → Bool) (A : Nat) : Nat → Nat
  | 0 => A
  | k + 1 => if bcn k < bcn (fwU gd A k) ∧ gd k = true then k else fwU gd A k
def bst (gd : Nat → Bool) (lo hi r : Nat) : Prop := gd r = true ∧ ∀ s, lo ≤ s → s < hi → gd s = true → bcn r < bcn s ∨ (bcn r = bcn s ∧ r ≤ s)
theorem fwC_s {gd : Nat → Bool} {hi : Nat} : ∀ k f, bst gd k hi f → f < hi → k ≤ hi → bst gd 0 hi (fwC gd k f) ∧ fwC gd k f < hi := by
  intro k
  induction k with
  | zero => intro f h hf _; exact ⟨h, hf⟩
  | succ k ih =>
    intro f h hf hk
    unfold fwC
    by_cases c : bcn k ≤ bcn f ∧ gd k = true
    · rw [if_pos c]
      refine ih k ⟨c.2, fun s h1 h2 h3 => ?_⟩ (by omega) (by omega)
      by_cases q : s = k
      · subst q; exact Or.inr ⟨rfl, Nat.le_refl _⟩
      · obtain w | w := h.2 s (by omega) h2 h3
        · left; omega
        · by_cases q2 : bcn k = bcn s
          · right; exact ⟨q2, by omega⟩
          · left; omega
    · rw [if_neg c]
      refine ih f ⟨h.1, fun s h1 h2 h3 => ?_⟩ hf (by omega)
      by_cases q : s = k
      · subst q
        left
        apply Classical.byContradiction
        intro w
        exact c ⟨by omega, h3⟩
      · exact h.2 s (by omega) h2 h3
theorem fwU_s {gd : Nat → Bool} {nb : Nat} (h8 : nb ≤ 8) (hA : gd (2 ^ nb - 1) = true) : ∀ k, k ≤ 2 ^ nb → bst gd 0 k (fwU gd (2 ^ nb - 1) k) ∧ (fwU gd (2 ^ nb - 1) k < k ∨ fwU gd (2 ^ nb - 1) k = 2 ^ nb - 1) := by
  intro k
  induction k with
  | zero => intro _; exact ⟨⟨hA, fun s h1 h2 => by omega⟩, Or.inr rfl⟩
  | succ k ih =>
    intro hk
    obtain ⟨⟨i1, i2⟩, i3⟩ := ih (by omega)
    unfold fwU
    by_cases c : bcn k < bcn (fwU gd (2 ^ nb - 1) k) ∧ gd k = true
    · rw [if_pos c]
      refine ⟨⟨c.2, fun s h1 h2 h3 => ?_⟩, Or.inl (by omega)⟩
      by_cases q : s = k
      · subst q; exact Or.inr ⟨rfl, Nat.le_refl _⟩
      · obtain w | w := i2 s h1 (by omega) h3
        · left; omega
        · left; omega
    · rw [if_neg c]
      refine ⟨⟨i1, fun s h1 h2 h3 => ?_⟩, by omega⟩
      by_cases q : s = k
      · subst q
        have w : bcn (fwU gd (2 ^ nb - 1) s) ≤ bcn s := by
          apply Classical.byContradiction
          intro w
          exact c ⟨by omega, h3⟩
        by_cases w2 : bcn (fwU gd (2 ^ nb - 1) s) = bcn s
        · right
          refine ⟨w2, ?_⟩
          obtain i3 | i3 := i3
          · omega
          · rw [i3] at w
            have := bcn_max h8 (by omega) w
            omega
        · left; omega
      · exact i2 s h1 (by omega) h3
theorem fw_eq {gd ge : Nat → Bool} {nb : Nat} (h8 : nb ≤ 8) (hg : ∀ k, k < 2 ^ nb → gd k = ge k) (hA : gd (2 ^ nb - 1) = true) : fwC gd (2 ^ nb) (2 ^ nb - 1) = fwU ge (2 ^ nb - 1) (2 ^ nb) := by
  have hp := Nat.two_pow_pos nb
  obtain ⟨⟨a1, a2⟩, a3⟩ := fwC_s (gd := gd) (hi := 2 ^ nb) (2 ^ nb) (2 ^ nb - 1) ⟨hA, fun s h1 h2 => by omega⟩ (by omega) (Nat.le_refl _)
  obtain ⟨⟨b1, b2⟩, b3⟩ := fwU_s (gd := ge) h8 (by rw [← hg _ (by omega)]; exact hA) (2 ^ nb) (Nat.le_refl _)
  have b4 : fwU ge (2 ^ nb - 1) (2 ^ nb) < 2 ^ nb := by omega
  have t1 := a2 _ (Nat.zero_le _) b4 (by rw [hg _ b4]; exact b1)
  have t2 := b2 _ (Nat.zero_le _) a3 (by rw [← hg _ a3]; exact a1)
  omega
theorem sum_pos {f : Nat → Int} : ∀ k, (∀ j, j < k → 0 ≤ f j) → (0 < sumN f k ↔ ∃ j, j < k ∧ 0 < f j) := by
  intro k
  induction k with
  | zero =>
    intro _
    constructor
    · intro h; exact absurd h (Int.lt_irrefl 0)
    · intro ⟨j, h, _⟩; omega
  | succ k ih =>
    intro h
    have h1 := ih (fun j hj => h j (by omega))
    have h2 := h k (by omega)
    have h3 : 0 ≤ sumN f k := by
      have : ∀ q, q ≤ k → 0 ≤ sumN f q := by
        intro q
        induction q with
        | zero => intro _; exact Int.le_refl 0
        | succ q ihq =>
          intro hq
          have := ihq (by omega)
          have := h q (by omega)
          unfold sumN
          omega
      exact this k (Nat.le_refl k)
    unfold sumN
    constructor
    · intro w
      by_cases q : 0 < f k
      · exact ⟨k, by omega, q⟩
      · obtain ⟨j, j1, j2⟩ := h1.mp (by omega)
        exact ⟨j, by omega, j2⟩
    · intro ⟨j, j1, j2⟩
      by_cases q : j = k
      · subst q; omega
      · have := h1.mpr ⟨j, by omega, j2⟩
        omega
theorem p2_n8 {nb : Nat} (h : nb ≤ 8) : 2 ^ nb ≤ 256 := by
  have : 2 ^ nb ≤ 2 ^ 8 := Nat.pow_le_pow_right (by decide) h
  exact this
section S77
variable {xs : Int → Int} {n : Int × Int} {D G : Sto} {nb m : Nat}
def dueS (D : Sto) (nb m : Nat) : Nat := bitP (fun b => decide (0 < cwD D nb m (2 ^ b))) nb
def gdC (D : Sto) (nb m lim : Nat) (set : Nat) : Bool := decide (dueS D nb m ^^^ (dueS D nb m &&& frcI (nxD D m) nb set (min (lim - 1) nb)) = 0)
theorem due_t {b : Nat} : (dueS D nb m).testBit b = true ↔ b < nb ∧ ∃ e : Nat, e < m ∧ ¬ D 137 e = b ∧ ¬ xD D m e b = 0 := by
  unfold dueS
  rw [bitP_t, decide_eq_true_eq]
  constructor
  · intro ⟨h0, h⟩
    refine ⟨h0, ?_⟩
    unfold cwD at h
    rw [sum_pos nb (fun c _ => (sumB_b (fun e : Nat => (2 ^ b).testBit c = true ∧ ¬ D 137 e = c ∧ ¬ xD D m e c = 0) m).1)] at h
    obtain ⟨c, c1, c2⟩ := h
    rw [sum_pos m (fun e _ => (bB_01 _).1)] at c2
    obtain ⟨e, e1, e2⟩ := c2
    by_cases q : (2 ^ b).testBit c = true ∧ ¬ D 137 e = c ∧ ¬ xD D m e c = 0
    · have := tp_t.mp q.1
      subst this
      exact ⟨e, e1, q.2⟩
    · rw [bB_f q] at e2
      exact absurd e2 (Int.lt_irrefl 0)
  · intro ⟨h0, e, e1, e2⟩
    refine ⟨h0, ?_⟩
    unfold cwD
    rw [sum_pos nb (fun c _ => (sumB_b (fun e : Nat => (2 ^ b).testBit c = true ∧ ¬ D 137 e = c ∧ ¬ xD D m e c = 0) m).1)]
    refine ⟨b, h0, ?_⟩
    rw [sum_pos m (fun e _ => (bB_01 _).1)]
    exact ⟨e, e1, by rw [bB_t ⟨tp_t.mpr rfl, e2⟩]; decide⟩
theorem gdC_t {lim set : Nat} : gdC D nb m lim set = true ↔ ∀ e b : Nat, e < m → b < nb → ¬ D 137 e = b → ¬ xD D m e b = 0 → (frcI (nxD D m) nb set (min (lim - 1) nb)).testBit b = true := by
  unfold gdC
  rw [decide_eq_true_eq]
  constructor
  · intro h e b he hb h1 h2
    apply Classical.byContradiction
    intro q
    exact nz_t.mpr ⟨b, andn_t.mpr ⟨due_t.mpr ⟨hb, e, he, h1, h2⟩, q⟩⟩ h
  · intro h
    apply Classical.byContradiction
    intro q
    obtain ⟨b, hb⟩ := nz_t.mp q
    rw [andn_t, due_t] at hb
    obtain ⟨⟨b1, e, e1, e2, e3⟩, b2⟩ := hb
    exact b2 (h e b e1 b1 e2 e3)
def gdR (D : Sto) (nb m A : Nat) (set : Nat) : Bool := anF (fun i => !qC D nb m A i || inB D nb m set (i / 8) (i % 8)) 0 128
theorem all_t {b : Nat} (hb : b < nb) : (2 ^ nb - 1).testBit b = true := by
  rw [tb_all]
  exact hb
theorem gd_eq (H : RG D nb m) {lim set : Nat} (hl0 : nb = 0 ∨ D 131 3 = lim) (hl1 : 1 ≤ lim) (hs : set < 2 ^ nb) : gdC D nb m lim set = gdR D nb m (2 ^ nb - 1) set := by
  have h8 := H.2.1
  have h16 := H.2.2.2.1
  have hp := Nat.two_pow_pos nb
  apply Bool.eq_iff_iff.mpr
  rw [gdC_t]
  unfold gdR
  rw [anF_iff]
  have inb' : ∀ (s e b : Nat), s < 2 ^ nb → b < nb → (inB D nb m s e b = true ↔ ¬ xD D m e b = 0 ∧ (frcI (nxD D m) nb s (min (lim - 1) nb)).testBit b = true) := by
    intro s e b h1 h2
    have hl : D 131 3 = lim := by
      obtain z | z := hl0
      · omega
      · exact z
    unfold inB
    rw [Bool.and_eq_true, decide_eq_true_eq, decide_eq_true_eq, hl]
    exact ca_in h1 h2 hl1
  constructor
  · intro h i _ hi
    show (!qC D nb m (2 ^ nb - 1) i || inB D nb m set (i / 8) (i % 8)) = true
    by_cases q : qC D nb m (2 ^ nb - 1) i = true
    · unfold qC at q
      rw [Bool.and_eq_true] at q
      obtain ⟨q1, q2, q3⟩ := qP_t.mp q.1
      have q4 := (inb' _ _ _ (by omega) q2).mp q.2
      rw [Bool.or_eq_true]
      right
      rw [inb' _ _ _ hs q2]
      exact ⟨q4.1, h _ _ q1 q2 q3 q4.1⟩
    · rw [Bool.eq_false_iff.mpr q]
      rfl
  · intro h e b he hb h1 h2
    have t := h (8 * e + b) (by omega) (by omega)
    have d1 : (8 * e + b) / 8 = e := by omega
    have d2 : (8 * e + b) % 8 = b := by omega
    rw [d1, d2] at t
    have q : qC D nb m (2 ^ nb - 1) (8 * e + b) = true := by
      unfold qC
      rw [Bool.and_eq_true, qP_t, d1, d2, inb' _ _ _ (by omega) hb]
      exact ⟨⟨he, hb, h1⟩, h2, frc_le (Nat.zero_le _) (all_t hb)⟩
    rw [q] at t
    exact ((inb' _ _ _ hs hb).mp t).2
theorem gd_A {lim : Nat} : gdC D nb m lim (2 ^ nb - 1) = true := by
  rw [gdC_t]
  intro e b he hb h1 h2
  exact frc_le (Nat.zero_le _) (all_t hb)
theorem cw_gd {lim set : Nat} (h : gdC D nb m lim set = true) : cwD D nb m (frcI (nxD D m) nb set (min (lim - 1) nb)) = cwD D nb m (frcI (nxD D m) nb (2 ^ nb - 1) (min (lim - 1) nb)) := by
  have h' := gdC_t.mp h
  have hA := gdC_t.mp (gd_A (D := D) (nb := nb) (m := m) (lim := lim))
  unfold cwD
  apply sumN_ex
  intro b hb
  apply sumN_ex
  intro e he
  by_cases q : ¬ D 137 e = b ∧ ¬ xD D m e b = 0
  · rw [bB_t ⟨h' e b he hb q.1 q.2, q⟩, bB_t ⟨hA e b he hb q.1 q.2, q⟩]
  · rw [bB_f (fun w => q w.2), bB_f (fun w => q w.2)]
theorem c108 (d lim : Nat) (K : RelK D nb m) (X : RelX D nb m) (hl0 : 0 < lim) (hl : lim < 100) : den (d + 7) 108 [(2, 54), (0, (lim : Int))] (Sg xs n (tkS D)) = some ((0, ((fwC (gdC D nb m lim) (2 ^ nb) (2 ^ nb - 1) : Nat) : Int)), Sg xs n (tkS D)) := by
  obtain ⟨G', hB', hS', hR'⟩ := tk_rel K
  have G'' := G'
  obtain ⟨⟨hnb, h8, hm, h16, hE⟩, g2, g3, g4⟩ := G'
  have HN := NX_tk K X
  have hpw : 2 ^ nb ≤ 256 := p2_n8 h8
  have hp := Nat.two_pow_pos nb
  have hic : ∀ k : Nat, k < nb → 0 ≤ tkS D 34 k ∧ tkS D 34 k ≤ 16 := by
    intro k hk
    have t := cntE_b (tkS D 137) k m
    rw [g4 k hk]
    omega
  have hdue : dueS D nb m < 256 := bitP_256 _ h8
  have k1 : ∀ r k, k + r = nb → Rn (d + 6) 108 4 [some (2, 54), some (0, (lim : Int)), some (0, ((bitP (fun b => decide (0 < cwD D nb m (2 ^ b))) k : Nat) : Int)), some (0, (k : Int)), none, none] [] (Sg xs n (tkS D)) = Rn (d + 6) 108 66 [some (2, 54), some (0, (lim : Int)), some (0, ((dueS D nb m : Nat) : Int)), some (0, ((2 ^ nb - 1 : Nat) : Int)), some (0, ((2 ^ nb - 1 : Nat) : Int)), none] [] (Sg xs n (tkS D)) := by
    intro r
    induction r with
    | zero =>
      intro k hk
      obtain rfl : k = nb := by omega
      have e1 : w32 (((2 ^ k : Nat) : Int) - 1) = ((2 ^ k - 1 : Nat) : Int) := by rw [w32_idP (by omega) (by omega)]; omega
      rw [h108_4, hnb, if_pos (by omega), c180 (d + 5) k (by omega), cK0, pR0, h108_49, hnb, c180 (d + 5) k (by omega), cK0, pR0, h108_62, e1]
      rfl
    | succ r ih =>
      intro k hk
      have hb := bitP_256 (fun b => decide (0 < cwD D nb m (2 ^ b))) (show k ≤ 8 by omega)
      have hk8 := p8 (show k < 8 by omega)
      have e1 := c106 (xs := xs) (n := n) (D := tkS D) d (2 ^ k) G''.1 hk8 hic
      rw [wr_sum K X] at e1
      rw [h108_4, hnb, if_neg (by omega), c180 (d + 5) k (by omega), cK0, pR0, h108_20, e1, cK0, pR0, h108_23, c180 (d + 5) k (by omega), cK0, pR0, h108_31]
      simp only [h108_33, w1 (show k < 2147483647 by omega)]
      rw [← ih (k + 1) (by omega), i_or_nat (by omega) (by omega)]
      have es : bitP (fun b => decide (0 < cwD D nb m (2 ^ b))) (k + 1) = if decide (0 < cwD D nb m (2 ^ k)) = true then bitP (fun b => decide (0 < cwD D nb m (2 ^ b))) k ||| 2 ^ k else bitP (fun b => decide (0 < cwD D nb m (2 ^ b))) k := rfl
      by_cases q : 0 < cwD D nb m (2 ^ k)
      · rw [es, if_neg (fun w => w q), if_pos (decide_eq_true q)]
      · rw [es, if_pos q, if_neg (by simp [q])]
  have k2 : ∀ (k f : Nat), k ≤ 2 ^ nb → f < 2 ^ nb → Rn (d + 6) 108 66 [some (2, 54), some (0, (lim : Int)), some (0, ((dueS D nb m : Nat) : Int)), some (0, (f : Int)), some (0, (k : Int) - 1), none] [] (Sg xs n (tkS D)) = some ((0, ((fwC (gdC D nb m lim) k f : Nat) : Int)), Sg xs n (tkS D)) := by
    intro k
    induction k with
    | zero =>
      intro f _ _
      rw [h108_66, if_pos (by omega)]
      rfl
    | succ k ih =>
      intro f hk hf
      have e0 : ((k + 1 : Nat) : Int) - 1 = (k : Int) := by omega
      have hfr := frcI_lt (nx := nxD D m) (nb := nb) h8 (show k < 256 by omega) (min (lim - 1) nb)
      have e1 : w32 ((lim : Int) - 1) = ((lim - 1 : Nat) : Int) := by rw [w32_idP (by omega) (by omega)]; omega
      have e2 : w32 ((k : Int) + -1) = (k : Int) - 1 := by rw [w32_idP (by omega) (by omega)]; omega
      rw [e0, h108_66, if_neg (by omega), c318 (d + 5) k (by omega), cK0, pR0, h108_76, c318 (d + 5) f (by omega), cK0, pR0, h108_80]
      simp only [h108_88, e1, c20 (d + 3) k (lim - 1) HN (show k < 256 by omega), cK0, pR0, h108_108, h108_117, e2, if_true, show ((1 : Int) = 0) = False by simp, if_false]
      rw [i_andn_nat (by omega) (by omega)]
      unfold fwC
      by_cases c1 : bcn f < bcn k
      · rw [if_pos c1, if_neg (fun w => by omega)]
        exact ih f (by omega) hf
      · rw [if_neg c1]
        by_cases c2 : dueS D nb m ^^^ (dueS D nb m &&& frcI (nxD D m) nb k (min (lim - 1) nb)) = 0
        · rw [if_neg (by rw [c2]; simp), if_pos ⟨by omega, by unfold gdC; exact decide_eq_true c2⟩]
          exact ih k (by omega) (by omega)
        · rw [if_pos (by omega), if_neg (fun w => c2 (by have := w.2; unfold gdC at this; exact of_decide_eq_true this))]
          exact ih f (by omega) hf
  rw [n108, h108_0]
  refine (k1 nb 0 (by omega)).trans ?_
  have := k2 (2 ^ nb) (2 ^ nb - 1) (Nat.le_refl _) (by omega)
  rw [show ((2 ^ nb : Nat) : Int) - 1 = ((2 ^ nb - 1 : Nat) : Int) by omega] at this
  exact this
theorem k284 (d set A : Nat) (B : BS D nb m) (L : LN D nb m) (hs : set < 2 ^ nb) : ∀ (r k : Nat) (G : Sto), k + r = 128 → kpS G D → (∀ i : Nat, i < 128 → G 167 i = bB (qC D nb m A i = true)) → ∃ G', kpS G' D ∧ (∀ i : Nat, i < 128 → G' 167 i = bB (qC D nb m A i = true)) ∧ Rn (d + 32) 284 2 [some (2, 129), some (0, (set : Int)), some (0, (k : Int))] [] (Sg xs n G) = some ((0, bB (anF (fun i => !qC D nb m A i || inB D nb m set (i / 8) (i % 8)) k r = true)), Sg xs n G') := by
  intro r
  induction r with
  | zero =>
    intro k G hk hG h167
    refine ⟨G, hG, h167, ?_⟩
    rw [h284_2, if_pos (by omega)]
    rfl
  | succ r ih =>
    intro k G hk hG h167
    have hd := dv8 k (by omega)
    rw [h284_2, if_neg (by omega), if_pos (inb_t (by omega) (by omega)), h167 k (by omega), bB_if, hd.1, hd.2, z8, if_pos rfl, if_pos rfl, h284_36, w1 (by omega)]
    unfold anF
    by_cases q : qC D nb m A k = true
    · have q' := q
      unfold qC at q
      rw [Bool.and_eq_true] at q
      obtain ⟨q1, q2, q3⟩ := qP_t.mp q.1
      obtain ⟨G1, b1, b2⟩ := c282 (xs := xs) (n := n) (D := G) (d + 1) (k / 8) (k % 8) set (m2_BS (kp_m2 hG) B) (kp_LN hG L) q1 q2 hs
      rw [inB_m (kp_m2 hG)] at b2
      rw [if_pos q', b2, cK0, pR0, h284_31, h284_36, w1 (by omega), q']
      by_cases w : inB D nb m set (k / 8) (k % 8) = true
      · obtain ⟨G', c1, c2, c3⟩ := ih (k + 1) G1 (by omega) (kp_S b1 hG) (fun i hi => by rw [ofS_z b1 167 _ (by decide) (by decide)]; exact h167 i hi)
        refine ⟨G', c1, c2, ?_⟩
        rw [bB_t w, if_pos (by decide), c3, w]
        rfl
      · refine ⟨G1, kp_S b1 hG, fun i hi => by rw [ofS_z b1 167 _ (by decide) (by decide)]; exact h167 i hi, ?_⟩
        rw [bB_f w, if_neg (by decide), Bool.eq_false_iff.mpr w]
        rfl
    · obtain ⟨G', c1, c2, c3⟩ := ih (k + 1) G (by omega) hG h167
      refine ⟨G', c1, c2, ?_⟩
      rw [if_neg q, c3, Bool.eq_false_iff.mpr q]
      rfl
theorem k288 (d A : Nat) (l1 most : Int) (B : BS D nb m) (L : LN D nb m) (hA : A = 2 ^ nb - 1) : ∀ (r k : Nat) (G : Sto), k + r = 2 ^ nb → kpS G D → (∀ i : Nat, i < 128 → G 167 i = bB (qC D nb m A i = true)) → ∃ G', kpS G' D ∧ Rn (d + 33) 288 39 [some (2, 129), some (0, l1), some (0, (A : Int)), some (0, most), some (0, ((fwU (gdR D nb m A) A k : Nat) : Int)), some (0, (k : Int))] [] (Sg xs n G) = some ((0, if l1 = 0 then ((fwU (gdR D nb m A) A (2 ^ nb) : Nat) : Int) else most), Sg xs n G') := by
  have h8 := B.1.1.2.1
  have hpw : 2 ^ nb ≤ 256 := p2_n8 h8
  have hp := Nat.two_pow_pos nb
  have hfu : ∀ k, k ≤ 2 ^ nb → fwU (gdR D nb m A) A k < 2 ^ nb := by
    intro k
    induction k with
    | zero => intro _; show A < 2 ^ nb; omega
    | succ k ih =>
      intro hk
      unfold fwU
      split
      · omega
      · exact ih (by omega)
  intro r
  induction r with
  | zero =>
    intro k G hk hG h167
    obtain rfl : k = 2 ^ nb := by omega
    refine ⟨G, hG, ?_⟩
    rw [h288_39, if_pos (by omega)]
    simp only [h288_87, if_sn]
  | succ r ih =>
    intro k G hk hG h167
    have hf := hfu k (by omega)
    have ihn := fun G => ih (k + 1) G (by omega)
    rw [h288_39, if_neg (by omega), c232 (d + 32) k (by omega), cK0, pR0, h288_50, c232 (d + 32) _ (by omega), cK0, pR0, h288_55]
    simp only [h288_71, w1 (show k < 2147483647 by omega)]
    have es : fwU (gdR D nb m A) A (k + 1) = if bcn k < bcn (fwU (gdR D nb m A) A k) ∧ gdR D nb m A k = true then k else fwU (gdR D nb m A) A k := rfl
    rw [es] at ihn
    by_cases c1 : bcn k < bcn (fwU (gdR D nb m A) A k)
    · rw [if_neg (fun w => w c1)]
      obtain ⟨G1, b1, b2, b3⟩ := k284 (xs := xs) (n := n) d k A B L (by omega) 128 0 G (by omega) hG h167
      rw [n284, h284_0]
      have b3' : Rn (d + 32) 284 2 [some (2, 129), some (0, (k : Int)), some (0, 0)] [] (Sg xs n G) = some ((0, bB (gdR D nb m A k = true)), Sg xs n G1) := b3
      rw [b3', cK0, pR0, h288_64, bB_if]
      simp only [h288_71, w1 (show k < 2147483647 by omega)]
      by_cases c2 : gdR D nb m A k = true
      · rw [if_pos c2]
        obtain ⟨G', x1, x2⟩ := ihn G1 b1 b2
        rw [if_pos ⟨c1, c2⟩] at x2
        exact ⟨G', x1, x2⟩
      · rw [if_neg c2]
        obtain ⟨G', x1, x2⟩ := ihn G1 b1 b2
        rw [if_neg (fun w => c2 w.2)] at x2
        exact ⟨G', x1, x2⟩
    · rw [if_pos c1]
      obtain ⟨G', x1, x2⟩ := ihn G hG h167
      rw [if_neg (fun w => c1 w.1)] at x2
      exact ⟨G', x1, x2⟩
theorem ts_checks (R : Rel D) (d : Nat) (w : Int) : tws xs n (d + 60) 0 157 288 [(0, w)] D := by
  have R0 := R
  obtain ⟨nb, m, K, X⟩ := R
  obtain ⟨G, hB, hS, h46, h45, hRB⟩ := RelK_G K
  have h8 := G.1.2.1
  have h16 := G.1.2.2.2.1
  obtain ⟨G', hB', hS', hR'⟩ := tk_rel K
  obtain ⟨⟨p2, p3⟩, p1⟩ := X.2.1.2.1
  have elim : ((D 26 6).toNat : Int) = D 26 6 := by omega
  have B0 : BS (up (tkS D) 129 0 0) nb m := m2_BS m2_0 (tk_BS K X)
  have mm0 : m2 (up (tkS D) 129 0 0) D := m2_t m2_0 tk_m2
  have hpw : 2 ^ nb ≤ 256 := p2_n8 h8
  have hp := Nat.two_pow_pos nb
  by_cases hw : 0 ≤ w ∧ w ≤ 1
  · have hic : ∀ k : Nat, k < nb → 0 ≤ tkS D 34 k ∧ tkS D 34 k ≤ 16 := by
      intro k hk
      have t := cntE_b (tkS D 137) k m
      rw [G'.2.2.2 k hk]
      omega
    have hd1 := gd_A (D := D) (nb := nb) (m := m) (lim := (D 26 6).toNat)
    obtain ⟨D1, G2, ⟨a1, a2, a3⟩, a4, a5, a6⟩ := c283 (xs := xs) (n := n) (d + 26) (2 ^ nb - 1) B0 (by omega)
    have mm : m2 D1 D := m2_t (ofN_m2 a1) mm0
    have hl : nb = 0 ∨ D1 131 3 = ((D 26 6).toNat : Int) := by rw [mm.1.1]; omega
    rw [qC_sum a3.1.1 (by omega) hl (by omega), cw_m mm, nxD_m mm] at a6
    obtain ⟨G3, b1, b2⟩ := k288 (xs := xs) (n := n) (d + 26) (2 ^ nb - 1) w (cwD D nb m (frcI (nxD D m) nb (2 ^ nb - 1) (min ((D 26 6).toNat - 1) nb))) a3 a2 rfl (2 ^ nb) 0 G2 (by omega) a4 a5
    have hgd : ∀ k, k < 2 ^ nb → gdC D nb m (D 26 6).toNat k = gdR D1 nb m (2 ^ nb - 1) k := by
      intro k hk
      rw [← gd_eq a3.1.1 hl (by omega) hk]
      apply Bool.eq_iff_iff.mpr
      rw [gdC_t, gdC_t]
      simp only [xD_m mm, nxD_m mm, mm.1.2.2.2.1]
    have hfw := fw_eq h8 hgd hd1
    have e1 := c108 (xs := xs) (n := n) (d + 52) (D 26 6).toNat K X (by omega) (by omega)
    obtain ⟨⟨q1, q2⟩, q3⟩ := fwC_s (gd := gdC D nb m (D 26 6).toNat) (hi := 2 ^ nb) (2 ^ nb) (2 ^ nb - 1) ⟨hd1, fun s h1 h2 => by omega⟩ (by omega) (Nat.le_refl _)
    have e2 := c107 (xs := xs) (n := n) (D := tkS D) (d + 52) (D 26 6).toNat (fwC (gdC D nb m (D 26 6).toNat) (2 ^ nb) (2 ^ nb - 1)) G'.1 (NX_tk K X) (by omega) (by omega) (by omega) hic
    rw [wr_sum K X, cw_gd q1, elim] at e2
    rw [elim] at e1
    have esh : w32 (i_shl 1 (nb : Int) - 1) = ((2 ^ nb - 1 : Nat) : Int) := by
      rw [i_shl_bit (by omega), w32_idP (by omega) (by omega)]
      omega
    refine tws_sim R0 (D1 := tkS D) (D2 := G3) (a := if w = 0 then ((fwU (gdR D1 nb m (2 ^ nb - 1)) (2 ^ nb - 1) (2 ^ nb) : Nat) : Int) else cwD D nb m (frcI (nxD D m) nb (2 ^ nb - 1) (min ((D 26 6).toNat - 1) nb))) ?_ ?_ (sim_t (sim_kp b1) (sim_t (sim_ofN a1) (sim_t sim_0 sim_tk)))
    · rw [n157, h157_0, c179, bB_t hw, cK0, pR0, h157_6, if_pos (by decide), c96]
      show Rn (d + 59) 157 25 [some (2, 1), some (0, w), none] [] (Sg xs n (tkS D)) = _
      rw [h157_25, tk_ne (by decide) (by decide), e1, cK0, pR0, h157_39, tk_ne (by decide) (by decide), e2, cK0, pR0, h157_63, h157_63, if_sn, hfw]
    · have hen : den (d + 60) 288 [(2, 129), (0, w)] (Sg xs n (tkS D)) = Rn (d + 59) 288 16 [some (2, 129), some (0, w), none, none, none, none] [] (Sg xs n (up (tkS D) 129 0 0)) := by
        rw [n288, h288_0]
        by_cases q : w = 0
        · rw [if_pos q]
        · rw [if_neg q, if_pos (by omega)]
      rw [hen, h288_16, mm0.1.1, G.2.1.1, esh, a6, cK0, pR0, h288_32]
      exact b2
  · refine tws_sim R0 (D1 := D) (D2 := up D 129 0 0) (a := -1) ?_ ?_ sim_0
    · rw [n157, h157_0, c179, bB_f hw, cK0, pR0, h157_6, if_neg (by decide)]
    · rw [n288, h288_0, if_neg (by omega), if_neg (by omega)]
end S77
