/-! Bases: the class's choices, one behind another -/
/-- slips that look right by some bases -/
def VB (D : Sto) (nb m : Nat) (bs : Int → Int) : Int := sumN (fun b => sumN (fun e => bB (¬ D 137 e = (b : Int) ∧ mkS nb (D 31) (D 32) (D 34) (D 55) bs e b = D 55 b)) m) nb
def okB (D : Sto) (nb m : Nat) (bs : Int → Int) : Prop := ∀ b : Nat, b < nb → (cntE (D 137) b m = 0 ∧ bs b = -1) ∨ ∃ e : Nat, e < m ∧ D 137 e = b ∧ bs b = D 136 e
def of5 (G D : Sto) : Prop := ∀ z j : Int, ¬ z = 56 → ¬ z = 57 → G z j = D z j
/-- a block's choice -/
def stB (G D : Sto) (m b : Nat) : Prop := (cntE (D 137) b m = 0 ∧ G 57 b = -1 ∧ G 56 b = -1) ∨ ∃ e : Nat, e < m ∧ D 137 e = b ∧ G 57 b = e ∧ G 56 b = D 136 e
def okSB (G D : Sto) (nb m : Nat) : Prop := of5 G D ∧ ∀ b : Nat, b < nb → stB G D m b
def fsB (G D : Sto) (m b : Nat) : Prop := ∀ e : Nat, e < m → D 137 e = b → G 57 b ≤ e
def laB (G D : Sto) (m b : Nat) : Prop := ∀ e : Nat, e < m → D 137 e = b → (e : Int) ≤ G 57 b
def PB (D : Sto) (m : Nat) : Nat → Nat
  | 0 => 1
  | j + 1 => PB D m j * max 1 (cntE (D 137) j m).toNat
theorem PB_pos {D : Sto} {m : Nat} : ∀ j, 1 ≤ PB D m j := by
  intro j
  induction j with
  | zero => exact Nat.le_refl 1
  | succ j ih => exact Nat.mul_le_mul ih (Nat.le_max_left 1 _)
theorem le_2p : ∀ k : Nat, max 1 k ≤ 2 ^ k := by
  intro k
  induction k with
  | zero => exact Nat.le_refl 1
  | succ k ih =>
    rw [Nat.pow_succ]
    have := Nat.two_pow_pos k
    omega
theorem PB_le {D : Sto} {m : Nat} : ∀ j, PB D m j ≤ 2 ^ (sumN (fun b => cntE (D 137) b m) j).toNat := by
  intro j
  induction j with
  | zero => exact Nat.le_refl 1
  | succ j ih =>
    have h1 : 0 ≤ sumN (fun b => cntE (D 137) b m) j := by
      have : ∀ k : Nat, 0 ≤ sumN (fun b => cntE (D 137) b m) k := by
        intro k
        induction k with
        | zero => exact Int.le_refl 0
        | succ k ih2 =>
          have := cntE_b (D 137) k m
          unfold sumN
          omega
      exact this j
    have h2 := cntE_b (D 137) j m
    unfold sumN PB
    rw [show (sumN (fun b => cntE (D 137) b m) j + cntE (D 137) j m).toNat = (sumN (fun b => cntE (D 137) b m) j).toNat + (cntE (D 137) j m).toNat by omega, Nat.pow_add]
    exact Nat.mul_le_mul ih (le_2p _)
theorem cnt_all {D : Sto} {nb m : Nat} (H : RG D nb m) : sumN (fun b => cntE (D 137) b m) nb = (m : Int) := by
  have e1 : sumN (fun b => cntE (D 137) b m) nb = sumN (fun b => sumN (fun e => bB (D 137 e = (b : Int))) m) nb := sumN_ex nb (fun b _ => cntE_sum (D 137) b m)
  rw [e1, sum_swap (fun b e => bB (D 137 (e : Int) = (b : Int))) m nb]
  have h1 : ∀ e : Nat, e < m → sumN (fun b => bB (D 137 e = (b : Int))) nb = 1 := by
    intro e he
    obtain ⟨_, f3, f4⟩ := H.2.2.2.2 e he
    have key : ∀ k : Nat, sumN (fun b => bB (D 137 e = (b : Int))) k = (if D 137 e < k then 1 else 0) := by
      intro k
      induction k with
      | zero =>
        rw [if_neg (by omega)]
        rfl
      | succ k ih =>
        unfold sumN
        rw [ih]
        by_cases q : D 137 e = k
        · rw [bB_t q, if_neg (by omega), if_pos (by omega)]
          rfl
        · rw [bB_f q]
          by_cases w : D 137 e < k
          · rw [if_pos w, if_pos (by omega)]
            rfl
          · rw [if_neg w, if_neg (by omega)]
            rfl
    rw [key nb, if_pos f4]
  rw [sumN_ex m h1, sum_c]
  omega
theorem PB_max {D : Sto} {nb m : Nat} (H : RG D nb m) : PB D m nb ≤ 65536 := by
  have h1 := PB_le (D := D) (m := m) nb
  rw [cnt_all H] at h1
  have h2 : 2 ^ ((m : Int)).toNat ≤ 2 ^ 16 := Nat.pow_le_pow_right (by decide) (by have := H.2.2.2.1; omega)
  exact Nat.le_trans h1 h2
section S78
variable {xs : Int → Int} {n : Int × Int} {D G : Sto} {nb m : Nat}
theorem VB_ex {bs bt : Int → Int} (hE : ∀ e : Nat, e < m → 0 ≤ D 32 e ∧ D 32 e < nb) (h : ∀ b : Nat, b < nb → bs b = bt b) : VB D nb m bs = VB D nb m bt := by
  unfold VB
  apply sumN_ex
  intro b hb
  apply sumN_ex
  intro e he
  have e1 := h b hb
  have e2 := h (D 32 e).toNat (by have := hE e he; omega)
  rw [Int.toNat_of_nonneg (hE e he).1] at e2
  have : mkS nb (D 31) (D 32) (D 34) (D 55) bs e b = mkS nb (D 31) (D 32) (D 34) (D 55) bt e b := by
    unfold mkS diffS adjS
    rw [e1, e2]
  rw [this]
theorem o5_f (h : of5 G D) (z : Int) (h1 : ¬ z = 56) (h2 : ¬ z = 57) : G z = D z := funext (fun j => h z j h1 h2)
theorem o5_EG (h : of5 G D) (H : EG D nb m) : EG G nb m := by
  unfold EG
  rw [o5_f h 30 (by decide) (by decide), o5_f h 31 (by decide) (by decide), o5_f h 32 (by decide) (by decide)]
  exact H
theorem c100V (d : Nat) (g : GE D D nb m) (h : of5 G D) : den (d + 6) 100 [(2, 54)] (Sg xs n G) = some ((0, VB D nb m (G 56)), Sg xs n G) := by
  have e1 := c100 (xs := xs) (n := n) (D := G) d (o5_EG h g.1)
  rw [e1]
  congr 3
  unfold VB
  apply sumN_ex
  intro b hb
  rw [cntP_sum]
  apply sumN_ex
  intro e he
  have t := (g.2.2.1 e he).2
  have i1 : lrP G b e = true ↔ (¬ D 137 e = (b : Int) ∧ mkS nb (D 31) (D 32) (D 34) (D 55) (G 56) e b = D 55 b) := by
    unfold lrP mkD
    rw [Bool.and_eq_true, decide_eq_true_eq, decide_eq_true_eq, o5_f h 30 (by decide) (by decide), o5_f h 31 (by decide) (by decide), o5_f h 32 (by decide) (by decide), o5_f h 34 (by decide) (by decide), o5_f h 55 (by decide) (by decide), t, g.1.1]
  by_cases q : lrP G b e = true
  · rw [bB_t q, bB_t (i1.mp q)]
  · rw [bB_f q, bB_f (fun w => q (i1.mpr w))]
theorem VB_b (bs : Int → Int) (h8 : nb ≤ 8) (h16 : m ≤ 16) : 0 ≤ VB D nb m bs ∧ VB D nb m bs ≤ 128 := by
  have h1 : ∀ b : Nat, 0 ≤ sumN (fun e => bB (¬ D 137 e = (b : Int) ∧ mkS nb (D 31) (D 32) (D 34) (D 55) bs e b = D 55 b)) m ∧ sumN (fun e => bB (¬ D 137 e = (b : Int) ∧ mkS nb (D 31) (D 32) (D 34) (D 55) bs e b = D 55 b)) m ≤ m := fun b => sumB_b (fun e : Nat => ¬ D 137 e = (b : Int) ∧ mkS nb (D 31) (D 32) (D 34) (D 55) bs e b = D 55 b) m
  have key : ∀ k : Nat, 0 ≤ sumN (fun b => sumN (fun e => bB (¬ D 137 e = (b : Int) ∧ mkS nb (D 31) (D 32) (D 34) (D 55) bs e b = D 55 b)) m) k ∧ sumN (fun b => sumN (fun e => bB (¬ D 137 e = (b : Int) ∧ mkS nb (D 31) (D 32) (D 34) (D 55) bs e b = D 55 b)) m) k ≤ 16 * k := by
    intro k
    induction k with
    | zero => simp [sumN]
    | succ k ih =>
      have := h1 k
      show 0 ≤ sumN _ k + sumN _ m ∧ sumN _ k + sumN _ m ≤ 16 * ((k + 1 : Nat) : Int)
      omega
  have := key nb
  unfold VB
  omega
theorem c111y (d b e c : Nat) (g : GE D D nb m) (h : of5 G D) (hb : b < nb) (hc : G 57 b = (c : Int) - 1) (he : e < m) (hce : c ≤ e) (ht : D 137 e = b) (hno : ∀ k : Nat, c ≤ k → k < e → ¬ D 137 k = b) : den (d + 1) 111 [(2, 54), (0, (b : Int))] (Sg xs n G) = some ((0, 1), Sg xs n (up (up G 57 b e) 56 b (D 136 e))) := by
  have h8 := g.1.2.1
  have h16 := g.1.2.2.2.1
  have key : ∀ r k : Nat, k + r = e → c ≤ k → Rn d 111 9 [some (2, 54), some (0, (b : Int)), some (0, (k : Int))] [] (Sg xs n G) = some ((0, 1), Sg xs n (up (up G 57 b e) 56 b (D 136 e))) := by
    intro r
    induction r with
    | zero =>
      intro k hk hck
      obtain rfl : k = e := by omega
      have t := g.2.2.1 k he
      rw [h111_9, o5_f h 30 (by decide) (by decide), g.1.2.2.1, if_neg (by omega), inb_t (show (0 : Int) ≤ (k : Int) by omega) (show (k : Int) < 16 by omega), if_pos rfl, o5_f h 32 (by decide) (by decide), t.2, if_neg (fun w => w ht), inb_t (show (0 : Int) ≤ (b : Int) by omega) (show (b : Int) < 8 by omega), if_pos rfl, if_pos rfl, if_pos rfl, o5_f h 31 (by decide) (by decide), t.1]
    | succ r ih =>
      intro k hk hck
      have t := g.2.2.1 k (by omega)
      rw [h111_9, o5_f h 30 (by decide) (by decide), g.1.2.2.1, if_neg (by omega), if_pos (inb_t (by omega) (by omega)), o5_f h 32 (by decide) (by decide), t.2, if_pos (hno k hck (by omega)), w1 (by omega)]
      exact ih (k + 1) (by omega) (by omega)
  rw [n111, h111_0, if_pos (inb_t (by omega) (by omega)), hc, show w32 ((c : Int) - 1 + 1) = (c : Int) by rw [w32_idP (by omega) (by omega)]; omega]
  exact key (e - c) c (by omega) (Nat.le_refl c)
theorem c111n (d b c : Nat) (g : GE D D nb m) (h : of5 G D) (hb : b < nb) (hc : G 57 b = (c : Int) - 1) (hcm : c ≤ m) (hno : ∀ k : Nat, c ≤ k → k < m → ¬ D 137 k = b) : den (d + 1) 111 [(2, 54), (0, (b : Int))] (Sg xs n G) = some ((0, 0), Sg xs n G) := by
  have h8 := g.1.2.1
  have h16 := g.1.2.2.2.1
  have key : ∀ r k : Nat, k + r = m → c ≤ k → Rn d 111 9 [some (2, 54), some (0, (b : Int)), some (0, (k : Int))] [] (Sg xs n G) = some ((0, 0), Sg xs n G) := by
    intro r
    induction r with
    | zero =>
      intro k hk hck
      rw [h111_9, o5_f h 30 (by decide) (by decide), g.1.2.2.1, if_pos (by omega)]
    | succ r ih =>
      intro k hk hck
      have t := g.2.2.1 k (by omega)
      rw [h111_9, o5_f h 30 (by decide) (by decide), g.1.2.2.1, if_neg (by omega), if_pos (inb_t (by omega) (by omega)), o5_f h 32 (by decide) (by decide), t.2, if_pos (hno k hck (by omega)), w1 (by omega)]
      exact ih (k + 1) (by omega) (by omega)
  rw [n111, h111_0, if_pos (inb_t (by omega) (by omega)), hc, show w32 ((c : Int) - 1 + 1) = (c : Int) by rw [w32_idP (by omega) (by omega)]; omega]
  exact key (m - c) c (by omega) (Nat.le_refl c)
/-- a block's choice begins anew -/
theorem reset (d b : Nat) (g : GE D D nb m) (h : of5 G D) (hb : b < nb) (h56 : cntE (D 137) b m = 0 → G 56 b = -1) : ∃ (G' : Sto) (v : Int), of5 G' D ∧ (stB G' D m b ∧ fsB G' D m b) ∧ (∀ z j : Int, ¬ j = b → G' z j = G z j) ∧ den (d + 1) 111 [(2, 54), (0, (b : Int))] (Sg xs n (up G 57 b (-1))) = some ((0, v), Sg xs n G') := by
  have o : of5 (up G 57 b (-1)) D := fun z j h1 h2 => by rw [up_ne h2]; exact h z j h1 h2
  by_cases q : ∃ e : Nat, e < m ∧ D 137 e = b
  · obtain ⟨e, e1, e2⟩ := q
    obtain ⟨e0, a1, a2, a3⟩ := first_ex (p := fun k => D 137 (k : Int) = (b : Int)) m e e1 e2
    refine ⟨up (up (up G 57 b (-1)) 57 b e0) 56 b (D 136 e0), 1, ?_, ⟨Or.inr ⟨e0, by omega, a2, ?_, up_at⟩, ?_⟩, ?_, c111y d b e0 0 g o hb (by rw [up_at]; rfl) (by omega) (Nat.zero_le _) a2 (fun k _ hk => a3 k hk)⟩
    · intro z j h1 h2
      rw [up_ne h1, up_ne h2]
      exact o z j h1 h2
    · rw [up_ne (by decide), up_at]
    · intro k hk hkt
      rw [up_ne (by decide), up_at]
      apply Classical.byContradiction
      intro w
      exact a3 k (by omega) hkt
    · intro z j hj
      rw [up_ni hj, up_ni hj, up_ni hj]
  · have hz : cntE (D 137) b m = 0 := by
      have := cntE_b (D 137) b m
      apply Classical.byContradiction
      intro w
      obtain ⟨e, e1, e2, _⟩ := cnt_ex (f := D 137) (v := b) m 0 (by omega) (by omega)
      exact q ⟨e, e1, e2⟩
    refine ⟨up G 57 b (-1), 0, o, ⟨Or.inl ⟨hz, up_at, ?_⟩, fun k hk hkt => absurd ⟨k, hk, hkt⟩ q⟩, fun z j hj => up_ni hj, c111n d b 0 g o hb (by rw [up_at]; rfl) (Nat.zero_le _) (fun k _ hk w => q ⟨k, hk, w⟩)⟩
    rw [up_ne (by decide)]
    exact h56 hz
theorem st_c {b : Nat} (h : stB G D m b) : ∃ c : Nat, c ≤ m ∧ G 57 b = (c : Int) - 1 ∧ (cntE (D 137) b m = 0 → G 56 b = -1) := by
  obtain ⟨h1, h2, h3⟩ | ⟨e, e1, e2, e3, e4⟩ := h
  · exact ⟨0, Nat.zero_le _, by rw [h2]; rfl, fun _ => h3⟩
  · refine ⟨e + 1, by omega, by rw [e3]; omega, fun w => ?_⟩
    have := cnt_pos (f := D 137) (v := b) (k := e) m e1 e2
    omega
/-- the next way to choose: the first j blocks begin anew -/
theorem k110 (d j : Nat) (g : GE D D nb m) (hj : j ≤ nb) : ∀ r b (G : Sto), b + r = j → okSB G D nb m → (∀ c : Nat, b ≤ c → c < j → laB G D m c) → (∀ c : Nat, c < b → fsB G D m c) → ∃ G', okSB G' D nb m ∧ (∀ c : Nat, c < j → fsB G' D m c) ∧ (∀ c : Nat, j ≤ c → c < nb → G' 57 c = G 57 c ∧ G' 56 c = G 56 c) ∧ Rn (d + 1) 110 2 [some (2, 54), some (0, (b : Int))] [] (Sg xs n G) = Rn (d + 1) 110 2 [some (2, 54), some (0, (j : Int))] [] (Sg xs n G') := by
  have h8 := g.1.2.1
  intro r
  induction r with
  | zero =>
    intro b G hb hG hl hf
    obtain rfl : b = j := by omega
    exact ⟨G, hG, hf, fun _ _ _ => ⟨rfl, rfl⟩, rfl⟩
  | succ r ih =>
    intro b G hb hG hl hf
    obtain ⟨c, c1, c2, c3⟩ := st_c (hG.2 b (by omega))
    have e1 := c111n (xs := xs) (n := n) d b c g hG.1 (by omega) c2 c1 (fun k hk1 hk2 w => by have := hl b (Nat.le_refl b) (by omega) k hk2 w; omega)
    obtain ⟨G1, v, a1, ⟨a2, a3⟩, a4, a5⟩ := reset (xs := xs) (n := n) d b g hG.1 (by omega) c3
    have same : ∀ (z : Int) (k : Nat), ¬ k = b → G1 z k = G z k := fun z k hk => a4 z k (by omega)
    obtain ⟨G2, b1, b2, b3, b4⟩ := ih (b + 1) G1 (by omega) ⟨a1, fun k hk => by
      by_cases q : k = b
      · subst q; exact a2
      · have := hG.2 k hk
        unfold stB at this ⊢
        rw [same 57 k q, same 56 k q]
        exact this⟩ (fun k hk1 hk2 e he hte => by
      rw [same 57 k (by omega)]
      exact hl k (by omega) hk2 e he hte) (fun k hk e he hte => by
      by_cases q : k = b
      · subst q; exact a3 e he hte
      · rw [same 57 k q]
        exact hf k (by omega) e he hte)
    refine ⟨G2, b1, b2, fun k hk1 hk2 => ?_, ?_⟩
    · obtain ⟨x1, x2⟩ := b3 k hk1 hk2
      rw [x1, x2, same 57 k (by omega), same 56 k (by omega)]
      exact ⟨rfl, rfl⟩
    · rw [h110_2, o5_f hG.1 30 (by decide) (by decide), g.1.1, if_neg (by omega), e1, cK0, pR0, h110_18, if_pos rfl, if_pos (inb_t (by omega) (by omega)), a5, cK0, pR0, h110_35, w1 (by omega)]
      exact b4
theorem okS_B (h : okSB G D nb m) : okB D nb m (G 56) := by
  intro b hb
  obtain ⟨h1, h2, h3⟩ | ⟨e, e1, e2, e3, e4⟩ := h.2 b hb
  · exact Or.inl ⟨h1, h3⟩
  · exact Or.inr ⟨e, e1, e2, e4⟩
/-- what a sweep leaves: the fewest -/
def swP (D : Sto) (nb m : Nat) (f f' : Int) (Q : (Int → Int) → Prop) : Prop := f' ≤ f ∧ (∀ bs, okB D nb m bs → Q bs → f' ≤ VB D nb m bs) ∧ (f' = f ∨ ∃ bs, okB D nb m bs ∧ f' = VB D nb m bs) ∧ 0 ≤ f'
theorem c323 (d : Nat) (a b : Int) : den (d + 1) 323 [(0, a), (0, b)] (Sg xs n G) = some ((0, min a b), Sg xs n G) := by
  simp only [n323, h323_0, h323_10]
  split
  · rw [Int.min_eq_right (by omega)]
  · rw [Int.min_eq_left (by omega)]
theorem sweep (d : Nat) (g : GE D D nb m) : ∀ j, j ≤ nb → ∀ (G : Sto) (f : Int) (i : Nat), okSB G D nb m → (∀ b : Nat, b < j → fsB G D m b) → i + PB D m j ≤ 65536 → f ≤ VB D nb m (G 56) → 0 ≤ f → ∃ (G' : Sto) (f' : Int), okSB G' D nb m ∧ (∀ b : Nat, b < j → laB G' D m b) ∧ (∀ b : Nat, j ≤ b → b < nb → G' 57 b = G 57 b ∧ G' 56 b = G 56 b) ∧ swP D nb m f f' (fun bs => ∀ b : Nat, j ≤ b → b < nb → bs b = G 56 b) ∧ Rn (d + 6) 109 39 [some (2, 54), some (0, f), some (0, (i : Int))] [] (Sg xs n G) = Rn (d + 6) 109 39 [some (2, 54), some (0, f'), some (0, ((i + (PB D m j - 1) : Nat) : Int))] [] (Sg xs n G') := by
  have h8 := g.1.2.1
  have h16 := g.1.2.2.2.1
  have hE : ∀ e : Nat, e < m → 0 ≤ D 32 e ∧ D 32 e < nb := fun e he => (g.1.2.2.2.2 e he).2
  intro j
  induction j with
  | zero =>
    intro _ G f i hG hf hi hv h0
    refine ⟨G, f, hG, fun b hb => by omega, fun _ _ _ => ⟨rfl, rfl⟩, ⟨Int.le_refl f, fun bs _ hq => ?_, Or.inl rfl, h0⟩, rfl⟩
    rw [VB_ex hE (fun b hb => hq b (Nat.zero_le b) hb)]
    exact hv
  | succ j ih =>
    intro hj G f i hG hf hi hv h0
    have hcb := cntE_b (D 137) j m
    have hP := PB_pos (D := D) (m := m) j
    -- the j-th block's choices from the one at hand on
    have inner : ∀ (r : Nat) (G : Sto) (f : Int) (i : Nat), okSB G D nb m → (∀ b : Nat, b < j → fsB G D m b) → (∀ c : Nat, G 57 j = (c : Int) - 1 → cntE (D 137) j m - cntE (D 137) j c = (r : Int)) → i + (r + 1) * PB D m j ≤ 65536 → f ≤ VB D nb m (G 56) → 0 ≤ f → ∃ (G' : Sto) (f' : Int), okSB G' D nb m ∧ (∀ b : Nat, b < j + 1 → laB G' D m b) ∧ (∀ b : Nat, j + 1 ≤ b → b < nb → G' 57 b = G 57 b ∧ G' 56 b = G 56 b) ∧ swP D nb m f f' (fun bs => (∀ b : Nat, j + 1 ≤ b → b < nb → bs b = G 56 b) ∧ (bs j = G 56 j ∨ ∃ e : Nat, e < m ∧ D 137 e = j ∧ G 57 j ≤ e ∧ bs j = D 136 e)) ∧ Rn (d + 6) 109 39 [some (2, 54), some (0, f), some (0, (i : Int))] [] (Sg xs n G) = Rn (d + 6) 109 39 [some (2, 54), some (0, f'), some (0, ((i + ((r + 1) * PB D m j - 1) : Nat) : Int))] [] (Sg xs n G') := by
      intro r
      induction r with
      | zero =>
        intro G f i hG hf hr hi hv h0
        obtain ⟨G', f', a1, a2, a3, ⟨a4, a5, a6, a7⟩, a8⟩ := ih (by omega) G f i hG hf (by omega) hv h0
        obtain ⟨c, c1, c2, c3⟩ := st_c (hG.2 j (by omega))
        have hr' := hr c c2
        have hlast : ∀ e : Nat, e < m → D 137 e = j → (e : Int) ≤ G 57 j := by
          intro e he ht
          apply Classical.byContradiction
          intro w
          have t1 := cntE_le (f := D 137) (v := (j : Int)) (show c ≤ e by omega)
          have t2 := cntE_s (f := D 137) (v := (j : Int)) he ht
          omega
        refine ⟨G', f', a1, fun b hb => ?_, fun b hb1 hb2 => a3 b (by omega) hb2, ⟨a4, fun bs hbs hq => ?_, a6, a7⟩, ?_⟩
        · by_cases q : b = j
          · subst q
            intro e he ht
            rw [(a3 b (Nat.le_refl b) (by omega)).1]
            exact hlast e he ht
          · exact a2 b (by omega)
        · refine a5 bs hbs (fun b hb1 hb2 => ?_)
          by_cases q : b = j
          · subst q
            obtain w | ⟨e, e1, e2, e3, e4⟩ := hq.2
            · exact w
            · have := hlast e e1 e2
              obtain ⟨h1, h2, h3⟩ | ⟨e', x1, x2, x3, x4⟩ := hG.2 b (by omega)
              · have := cnt_pos (f := D 137) (v := b) (k := e) m e1 e2
                omega
              · have : e = e' := by omega
                subst this
                rw [e4, x4]
          · exact hq.1 b (by omega) hb2
        · have e1 : (0 + 1) * PB D m j = PB D m j := by omega
          rw [e1]
          exact a8
      | succ r ihr =>
        intro G f i hG hf hr hi hv h0
        have hmul : (r + 1 + 1) * PB D m j = (r + 1) * PB D m j + PB D m j := by rw [Nat.add_mul (r + 1) 1, Nat.one_mul]
        have hge : 1 ≤ (r + 1) * PB D m j := Nat.mul_le_mul (show 1 ≤ r + 1 by omega) hP
        obtain ⟨G1, f1, a1, a2, a3, ⟨a4, a5, a6, a7⟩, a8⟩ := ih (by omega) G f i hG hf (by omega) hv h0
        obtain ⟨c, c1, c2, c3⟩ := st_c (hG.2 j (by omega))
        have hr' := hr c c2
        have hj1 := a3 j (Nat.le_refl j) (by omega)
        -- the next choice
        obtain ⟨G2, b1, b2, b3, b4⟩ := k110 (xs := xs) (n := n) (d + 4) j g (by omega) j 0 G1 (by omega) a1 (fun c _ hc => a2 c hc) (fun c hc => by omega)
        have hj2 := b3 j (Nat.le_refl j) (by omega)
        have hnx : ∃ e : Nat, c ≤ e ∧ e < m ∧ D 137 e = j ∧ ∀ k : Nat, c ≤ k → k < e → ¬ D 137 k = j := by
          have hc0 := cntE_b (D 137) j c
          obtain ⟨e, e1, e2, e3⟩ := cnt_ex (f := D 137) (v := (j : Int)) m (cntE (D 137) j c) hc0.1 (by omega)
          have hce : c ≤ e := by
            apply Classical.byContradiction
            intro w
            have := cntE_s (f := D 137) (v := (j : Int)) (show e < c by omega) e2
            omega
          refine ⟨e, hce, e1, e2, fun k hk1 hk2 w => ?_⟩
          have t1 := cntE_le (f := D 137) (v := (j : Int)) hk1
          have t2 := cntE_s (f := D 137) (v := (j : Int)) hk2 w
          omega
        obtain ⟨e, x1, x2, x3, x4⟩ := hnx
        have e5 := c111y (xs := xs) (n := n) (d + 4) j e c g b1.1 (by omega) (by rw [hj2.1, hj1.1]; exact c2) x2 x1 x3 x4
        have hno : ∀ (k : Nat) , ¬ k = j → (up (up G2 57 j e) 56 j (D 136 e)) 57 k = G2 57 k ∧ (up (up G2 57 j e) 56 j (D 136 e)) 56 k = G2 56 k := by
          intro k hk
          constructor
          · rw [up_ne (by decide), up_ni (by omega)]
          · rw [up_ni (by omega), up_ne (by decide)]
        have y57 : (up (up G2 57 j e) 56 j (D 136 e)) 57 j = e := by rw [up_ne (by decide), up_at]
        have y56 : (up (up G2 57 j e) 56 j (D 136 e)) 56 j = D 136 e := up_at
        have o3 : of5 (up (up G2 57 j e) 56 j (D 136 e)) D := fun z k h1 h2 => by rw [up_ne h1, up_ne h2]; exact b1.1 z k h1 h2
        generalize (up (up G2 57 j e) 56 j (D 136 e)) = G3 at e5 hno y57 y56 o3
        have ok3 : okSB G3 D nb m := ⟨o3, fun k hk => by
          by_cases q : k = j
          · subst q; exact Or.inr ⟨e, x2, x3, y57, y56⟩
          · have := b1.2 k hk
            unfold stB at this ⊢
            rw [(hno k q).1, (hno k q).2]
            exact this⟩
        have hv3 := VB_b (D := D) (G3 56) h8 h16
        obtain ⟨G4, f4, z1, z2, z3, ⟨z4, z5, z6, z7⟩, z8'⟩ := ihr G3 (min f1 (VB D nb m (G3 56))) (i + PB D m j) ok3 (fun b hb e' he' ht => by
            rw [(hno b (by omega)).1]
            exact b2 b hb e' he' ht) (fun c' hc' => by
            rw [y57] at hc'
            have : c' = e + 1 := by omega
            subst this
            have t1 : cntE (D 137) j (e + 1) = cntE (D 137) j e + (if D 137 (e : Int) = j then 1 else 0) := rfl
            rw [t1, if_pos x3]
            have t2 : cntE (D 137) j e = cntE (D 137) j c := by
              have t3 := cntE_le (f := D 137) (v := (j : Int)) x1
              apply Classical.byContradiction
              intro w
              obtain ⟨k, k1, k2, k3⟩ := cnt_ex (f := D 137) (v := (j : Int)) e (cntE (D 137) j c) (cntE_b (D 137) j c).1 (by omega)
              have hck : c ≤ k := by
                apply Classical.byContradiction
                intro w2
                have := cntE_s (f := D 137) (v := (j : Int)) (show k < c by omega) k2
                omega
              exact x4 k hck k1 k2
            omega) (by omega) (Int.min_le_right _ _) (by omega)
        refine ⟨G4, f4, z1, z2, fun b hb1 hb2 => ?_, ⟨?_, ?_, ?_, z7⟩, ?_⟩
        · obtain ⟨u1, u2⟩ := z3 b hb1 hb2
          obtain ⟨u3, u4⟩ := hno b (by omega)
          obtain ⟨u5, u6⟩ := b3 b (by omega) hb2
          obtain ⟨u7, u8⟩ := a3 b (by omega) hb2
          rw [u1, u2, u3, u4, u5, u6, u7, u8]
          exact ⟨rfl, rfl⟩
        · have := Int.min_le_left f1 (VB D nb m (G3 56))
          omega
        · intro bs hbs hq
          have hup : ∀ b : Nat, j + 1 ≤ b → b < nb → G3 56 b = G 56 b := by
            intro b hb1 hb2
            rw [(hno b (by omega)).2, (b3 b (by omega) hb2).2, (a3 b (by omega) hb2).2]
          have first : bs j = G 56 j → f4 ≤ VB D nb m bs := by
            intro w
            have := a5 bs hbs (fun b hb1 hb2 => by
              by_cases q : b = j
              · subst q; exact w
              · exact hq.1 b (by omega) hb2)
            have := Int.min_le_left f1 (VB D nb m (G3 56))
            omega
          obtain w | ⟨e', w1', w2', w3', w4'⟩ := hq.2
          · exact first w
          · by_cases q : c ≤ e'
            · refine z5 bs hbs ⟨fun b hb1 hb2 => by rw [hup b hb1 hb2]; exact hq.1 b hb1 hb2, Or.inr ⟨e', w1', w2', ?_, w4'⟩⟩
              rw [y57]
              apply Classical.byContradiction
              intro w
              exact x4 e' q (by omega) w2'
            · obtain ⟨h1, h2, h3⟩ | ⟨e'', v1, v2, v3, v4⟩ := hG.2 j (by omega)
              · have := cnt_pos (f := D 137) (v := j) (k := e') m w1' w2'
                omega
              · have : e' = e'' := by omega
                subst this
                exact first (by rw [w4', v4])
        · obtain w | w := z6
          · rw [w]
            by_cases q : f1 ≤ VB D nb m (G3 56)
            · rw [Int.min_eq_left q]
              exact a6
            · rw [Int.min_eq_right (by omega)]
              exact Or.inr ⟨G3 56, okS_B ok3, rfl⟩
          · exact Or.inr w
        · have cho : den (d + 6) 110 [(2, 54)] (Sg xs n G1) = some ((0, 1), Sg xs n G3) := by
            rw [n110, h110_0]
            refine b4.trans ?_
            rw [h110_2, o5_f b1.1 30 (by decide) (by decide), g.1.1, if_neg (by omega), e5, cK0, pR0, h110_18, if_neg (by decide)]
          refine a8.trans ?_
          rw [h109_39, if_neg (by omega), cho, cK0, pR0, h109_49, if_neg (by decide), c100V d g o3, cK0, pR0, h109_57, c323, cK0, pR0, h109_60, w1 (by omega)]
          have e6 : i + (PB D m j - 1) + 1 = i + PB D m j := by omega
          have e7 : i + PB D m j + ((r + 1) * PB D m j - 1) = i + ((r + 1 + 1) * PB D m j - 1) := by omega
          rw [e6, ← e7]
          exact z8'
    by_cases hz : cntE (D 137) j m = 0
    · have hno : ∀ e : Nat, e < m → ¬ D 137 e = j := fun e he w => by
        have := cnt_pos (f := D 137) (v := j) (k := e) m he w
        omega
      have hPj : PB D m (j + 1) = PB D m j := by
        show PB D m j * max 1 (cntE (D 137) j m).toNat = _
        rw [hz]
        show PB D m j * 1 = _
        omega
      rw [hPj] at hi
      obtain ⟨G', f', a1, a2, a3, ⟨a4, a5, a6, a7⟩, a8⟩ := ih (by omega) G f i hG (fun b hb => hf b (by omega)) hi hv h0
      refine ⟨G', f', a1, fun b hb => ?_, fun b hb1 hb2 => a3 b (by omega) hb2, ⟨a4, fun bs hbs hq => ?_, a6, a7⟩, ?_⟩
      · by_cases q : b = j
        · subst q
          intro e he ht
          exact absurd ht (hno e he)
        · exact a2 b (by omega)
      · refine a5 bs hbs (fun b hb1 hb2 => ?_)
        by_cases q : b = j
        · subst q
          obtain ⟨_, h2, h3⟩ | ⟨e, e1, e2, _⟩ := hG.2 b (by omega)
          · obtain ⟨_, w⟩ | ⟨e, e1, e2, _⟩ := hbs b (by omega)
            · rw [w, h3]
            · exact absurd e2 (hno e e1)
          · exact absurd e2 (hno e e1)
        · exact hq b (by omega) hb2
      · rw [hPj]
        exact a8
    · have hPj : PB D m (j + 1) = (cntE (D 137) j m).toNat * PB D m j := by
        show PB D m j * max 1 (cntE (D 137) j m).toNat = _
        rw [show max 1 (cntE (D 137) j m).toNat = (cntE (D 137) j m).toNat by omega, Nat.mul_comm]
      have er : (cntE (D 137) j m).toNat - 1 + 1 = (cntE (D 137) j m).toNat := by omega
      obtain ⟨G', f', a1, a2, a3, ⟨a4, a5, a6, a7⟩, a8⟩ := inner ((cntE (D 137) j m).toNat - 1) G f i hG (fun b hb => hf b (by omega)) (fun c hc => by
        obtain ⟨_, h2, h3⟩ | ⟨e, e1, e2, e3, _⟩ := hG.2 j (by omega)
        · omega
        · have : c = e + 1 := by omega
          subst this
          have t1 : cntE (D 137) j (e + 1) = cntE (D 137) j e + (if D 137 (e : Int) = j then 1 else 0) := rfl
          have t2 : cntE (D 137) j e = 0 := by
            apply Classical.byContradiction
            intro w
            have := cntE_b (D 137) j e
            obtain ⟨k, k1, k2, _⟩ := cnt_ex (f := D 137) (v := (j : Int)) e 0 (by omega) (by omega)
            have := hf j (by omega) k (by omega) k2
            omega
          rw [t1, if_pos e2, t2]
          omega) (by rw [er, ← hPj]; exact hi) hv h0
      rw [er, ← hPj] at a8
      refine ⟨G', f', a1, a2, a3, ⟨a4, fun bs hbs hq => ?_, a6, a7⟩, a8⟩
      refine a5 bs hbs ⟨hq, ?_⟩
      obtain ⟨w, _⟩ | ⟨e, e1, e2, e3⟩ := hbs j (by omega)
      · exact absurd w hz
      · exact Or.inr ⟨e, e1, e2, hf j (by omega) e e1 e2, e3⟩
end S78
