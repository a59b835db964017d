/-! The best question: the class's search -/
def rbP (P : Nat → Bool) (W : Nat → Nat) : Nat → Nat × Nat
  | 0 => (0, 99)
  | k + 1 => if P k = true ∧ W k < (rbP P W k).2 then (k, W k) else rbP P W k
theorem rbP_s (P : Nat → Bool) (W : Nat → Nat) (k : Nat) : rbP P W (k + 1) = if P k = true ∧ W k < (rbP P W k).2 then (k, W k) else rbP P W k := rfl
theorem rbP_lt (P : Nat → Bool) (W : Nat → Nat) (hW : ∀ k, W k ≤ 16) : ∀ k, (rbP P W k).2 ≤ 16 ∧ (rbP P W k).1 < k ∨ (rbP P W k).2 = 99 := by
  intro k
  induction k with
  | zero => exact Or.inr rfl
  | succ k ih =>
    rw [rbP_s]
    by_cases h : P k = true ∧ W k < (rbP P W k).2
    · rw [if_pos h]
      exact Or.inl ⟨hW k, Nat.lt_succ_self k⟩
    · rw [if_neg h]
      omega
theorem rbP_no (P : Nat → Bool) (W : Nat → Nat) : ∀ j k, (∀ i, k ≤ i → i < k + j → P i = false) → rbP P W (k + j) = rbP P W k := by
  intro j
  induction j with
  | zero => intro k _; rfl
  | succ j ih =>
    intro k h
    rw [show k + (j + 1) = (k + j) + 1 by omega, rbP_s, if_neg (fun q => by rw [h (k + j) (by omega) (by omega)] at q; cases q.1)]
    exact ih k (fun i h1 h2 => h i h1 (by omega))
def qP (T : Int → Int) (nb m : Nat) (k : Nat) : Bool := decide (k / 8 < m) && decide (k % 8 < nb) && !decide (T ((k / 8 : Nat) : Int) = ((k % 8 : Nat) : Int))
def qW (f : Nat → Nat → Nat → Nat) (set : Nat) (k : Nat) : Nat := mxV (f (k / 8) (k % 8)) set 16
theorem qW_le (f : Nat → Nat → Nat → Nat) (set k : Nat) : qW f set k ≤ 16 := mxV_le _ _ 16
def offA (F D : Sto) : Prop := ∀ z j : Int, ¬ z = 63 → ¬ (z = 58 ∧ (j = 1 ∨ j = 2 ∨ j = 3)) → F z j = D z j
def iv59 (F D : Sto) (p : Nat × Nat) (l4 : Int) : Prop := offA F D ∧ l4 = (if p.2 = 99 then 0 else 1) ∧ (¬ p.2 = 99 → F 58 1 = ((p.1 / 8 : Nat) : Int) ∧ F 58 2 = ((p.1 % 8 : Nat) : Int) ∧ F 58 3 = ((p.2 : Nat) : Int))
theorem rz59 : ret01 59 0 = true ∧ ret01 59 1 = true := ⟨rfl, rfl⟩
section A3
variable {xs : Int → Int} {n : Int × Int} {D : Sto} {nb m : Nat}
theorem k59i (d c set e : Nat) (f : Nat → Nat → Nat → Nat) (H : EG D nb m) (he : e < m) (hc : c < nb) (hs : set < 65536) (hf : ∀ e : Nat, e < m → ∀ b : Nat, b < nb → ∀ v : Nat, v < 16 → mkD (up D 55 c v) e b = f e b v ∧ f e b v < 256) : ∀ r b (F : Sto) l4, b + r = nb → iv59 F D (rbP (qP (D 32) nb m) (qW f set) (8 * e + b)) l4 → ∃ (F' : Sto) (l4' : Int), iv59 F' D (rbP (qP (D 32) nb m) (qW f set) (8 * e + nb)) l4' ∧ Rn (d + 6) 59 32 [some (2, 58), some (0, (c : Int)), some (0, (set : Int)), some (2, 30), some (0, l4), some (0, (e : Int)), some (0, ((b : Nat) : Int)), none] [] (Sg xs n F) = Rn (d + 6) 59 20 [some (2, 58), some (0, (c : Int)), some (0, (set : Int)), some (2, 30), some (0, l4'), some (0, ((e + 1 : Nat) : Int)), some (0, (nb : Int)), none] [] (Sg xs n F') := by
  have H' := H
  obtain ⟨hnb, h8, hm, h16, hE⟩ := H
  intro r
  induction r with
  | zero =>
    intro b F l4 hb hI
    obtain rfl : b = nb := by omega
    refine ⟨F, l4, hI, ?_⟩
    rw [h59_32, hI.1 30 0 (by decide) (by decide), hnb, if_pos (by omega), w1 (show e < 2147483647 by omega)]
  | succ r ih =>
    intro b F l4 hb hI
    obtain ⟨hO, h4, h5⟩ := hI
    have hcell : ∀ z : Int, ¬ z = 63 → ¬ z = 58 → F z = D z := fun z h1 h2 => funext (fun j => hO z j h1 (fun q => h2 q.1))
    have k1 : (8 * e + b) / 8 = e := by omega
    have k2 : (8 * e + b) % 8 = b := by omega
    have es := rbP_s (qP (D 32) nb m) (qW f set) (8 * e + b)
    have ew : qW f set (8 * e + b) = mxV (f e b) set 16 := by
      unfold qW
      rw [k1, k2]
    have ep : qP (D 32) nb m (8 * e + b) = !decide (D 32 e = b) := by
      unfold qP
      rw [k1, k2]
      simp [he, show b < nb by omega]
    have hlt := rbP_lt (qP (D 32) nb m) (qW f set) (qW_le f set) (8 * e + b)
    have hw := qW_le f set (8 * e + b)
    generalize rbP (qP (D 32) nb m) (qW f set) (8 * e + b) = p at es h4 h5 hlt
    rw [ew] at es hw
    rw [h59_32, hcell 30 (by decide) (by decide), hcell 32 (by decide) (by decide), hnb, if_neg (by omega), if_pos (inb_t (by omega) (by omega))]
    by_cases hq : D 32 e = b
    · rw [if_neg (by simp [hq]), h59_103, w1 (show b < 2147483647 by omega)]
      refine ih (b + 1) F l4 (by omega) ?_
      rw [show 8 * e + (b + 1) = 8 * e + b + 1 by omega, es, if_neg (fun q => by rw [ep] at q; simp [hq] at q)]
      exact ⟨hO, h4, h5⟩
    · have HF : EG F nb m := by
        unfold EG
        rw [hcell 30 (by decide) (by decide), hcell 31 (by decide) (by decide), hcell 32 (by decide) (by decide)]
        exact H'
      have hfF : ∀ v : Nat, v < 16 → mkD (up F 55 c v) e b = f e b v ∧ f e b v < 256 := by
        intro v hv
        have hu : ∀ z : Int, ¬ z = 63 → ¬ z = 58 → up F 55 c v z = up D 55 c v z := by
          intro z h1 h2
          funext j
          unfold up
          rw [hcell z h1 h2]
        have := hf e he b (by omega) v hv
        unfold mkD at this ⊢
        rw [hu 30 (by decide) (by decide), hu 31 (by decide) (by decide), hu 32 (by decide) (by decide), hu 34 (by decide) (by decide), hu 55 (by decide) (by decide), hu 56 (by decide) (by decide)]
        exact this
      obtain ⟨G, g1, g2⟩ := c60 (xs := xs) (n := n) (d + 2) e b c set (f e b) HF he (by omega) hc hs hfF
      have hOG : offA G D := fun z j h1 h2 => by rw [g1 z j h1]; exact hO z j h1 h2
      rw [if_pos hq, g2, cK0, pR0, h59_66]
      have hup : ∀ q1 : (mxV (f e b) set 16) < p.2, iv59 (up (up (up G 58 1 e) 58 2 b) 58 3 ((mxV (f e b) set 16 : Nat) : Int)) D (rbP (qP (D 32) nb m) (qW f set) (8 * e + (b + 1))) 1 := by
        intro q1
        rw [show 8 * e + (b + 1) = 8 * e + b + 1 by omega, es, if_pos ⟨by rw [ep]; simp [hq], q1⟩]
        refine ⟨?_, ?_, ?_⟩
        · intro z j h1 h2
          by_cases hz : z = 58
          · rw [up_ni (fun w => h2 ⟨hz, by omega⟩), up_ni (fun w => h2 ⟨hz, by omega⟩), up_ni (fun w => h2 ⟨hz, by omega⟩)]
            exact hOG z j h1 h2
          · rw [up_ne hz, up_ne hz, up_ne hz]
            exact hOG z j h1 h2
        · show (1 : Int) = if mxV (f e b) set 16 = 99 then 0 else 1
          rw [if_neg (by omega)]
        · intro _
          show _ = (((8 * e + b) / 8 : Nat) : Int) ∧ _ = (((8 * e + b) % 8 : Nat) : Int) ∧ _
          rw [k1, k2]
          refine ⟨?_, ?_, up_at⟩
          · rw [up_ni (by decide), up_ni (by decide), up_at]
          · rw [up_ni (by decide), up_at]
      by_cases hp : p.2 = 99
      · rw [h4, if_pos hp, if_pos rfl, h59_82, h59_103, w1 (show b < 2147483647 by omega)]
        exact ih (b + 1) _ 1 (by omega) (hup (by omega))
      · rw [h4, if_neg hp, if_neg (by decide)]
        have h58 : G 58 3 = ((p.2 : Nat) : Int) := by
          rw [g1 58 3 (by decide)]
          exact (h5 hp).2.2
        rw [h58]
        by_cases hl : mxV (f e b) set 16 < p.2
        · rw [if_neg (by omega), h59_82, h59_103, w1 (show b < 2147483647 by omega)]
          exact ih (b + 1) _ 1 (by omega) (hup hl)
        · rw [if_pos (by omega), h59_103, w1 (show b < 2147483647 by omega)]
          refine ih (b + 1) G 1 (by omega) ?_
          rw [show 8 * e + (b + 1) = 8 * e + b + 1 by omega, es, if_neg (fun q => hl q.2)]
          refine ⟨hOG, by rw [if_neg hp], fun _ => ?_⟩
          rw [g1 58 1 (by decide), g1 58 2 (by decide), g1 58 3 (by decide)]
          exact h5 hp
theorem k59o (d c set : Nat) (f : Nat → Nat → Nat → Nat) (H : EG D nb m) (hc : c < nb) (hs : set < 65536) (hf : ∀ e : Nat, e < m → ∀ b : Nat, b < nb → ∀ v : Nat, v < 16 → mkD (up D 55 c v) e b = f e b v ∧ f e b v < 256) : ∀ r e (F : Sto) l4 o6, e + r = m → iv59 F D (rbP (qP (D 32) nb m) (qW f set) (8 * e)) l4 → ∃ (F' : Sto) (l4' : Int), iv59 F' D (rbP (qP (D 32) nb m) (qW f set) (8 * m)) l4' ∧ Rn (d + 6) 59 20 [some (2, 58), some (0, (c : Int)), some (0, (set : Int)), some (2, 30), some (0, l4), some (0, ((e : Nat) : Int)), o6, none] [] (Sg xs n F) = some ((0, l4'), Sg xs n F') := by
  have H' := H
  obtain ⟨hnb, h8, hm, h16, hE⟩ := H
  intro r
  induction r with
  | zero =>
    intro e F l4 o6 he hI
    obtain rfl : e = m := by omega
    refine ⟨F, l4, hI, ?_⟩
    have h4 := hI.2.1
    rw [h59_20, hI.1 30 1 (by decide) (by decide), hm, if_pos (by omega), if_pos]
    rw [h4]
    split
    · exact rz59.1
    · exact rz59.2
  | succ r ih =>
    intro e F l4 o6 he hI
    obtain ⟨F1, l41, a1, a2⟩ := k59i (xs := xs) (n := n) d c set e f H' (by omega) hc hs hf nb 0 F l4 (by omega) hI
    have a3 : rbP (qP (D 32) nb m) (qW f set) (8 * e + nb + (8 - nb)) = rbP (qP (D 32) nb m) (qW f set) (8 * e + nb) := rbP_no _ _ (8 - nb) (8 * e + nb) (fun i h1 h2 => by
      unfold qP
      rw [show decide (i % 8 < nb) = false from decide_eq_false (by omega)]
      simp)
    rw [show 8 * e + nb + (8 - nb) = 8 * (e + 1) by omega] at a3
    rw [← a3] at a1
    obtain ⟨F2, l42, b1, b2⟩ := ih (e + 1) F1 l41 (some (0, (nb : Int))) (by omega) a1
    refine ⟨F2, l42, b1, ?_⟩
    rw [h59_20, hI.1 30 1 (by decide) (by decide), hm, if_neg (by omega)]
    exact a2.trans b2
theorem c59 (d c q q' : Nat) (f : Nat → Nat → Nat → Nat) (hk : D 58 0 = q) (hk' : knC D = q') (hq : q' ≤ q) (H : EG D nb m) (HT : NT D q nb m) (hc : c < nb) (hf : ∀ e : Nat, e < m → ∀ b : Nat, b < nb → ∀ v : Nat, v < 16 → mkD (up D 55 c v) e b = f e b v ∧ f e b v < 256) : ∃ (F : Sto) (l4 : Int), iv59 F D (rbP (qP (D 32) nb m) (qW f (slC D q q' c)) 128) l4 ∧ den (d + 7) 59 [(2, 58), (0, (c : Int))] (Sg xs n D) = some ((0, l4), Sg xs n F) := by
  have h16 := H.2.2.2.1
  have hs : slC D q q' c < 65536 := bitP_lt _ 16
  have e := c57 (xs := xs) (n := n) (D := D) d c hc hk hk' H HT (NT_le HT hq)
  obtain ⟨F, l4, a1, a2⟩ := k59o (xs := xs) (n := n) d c (slC D q q' c) f H hc hs hf m 0 D 0 none (by omega) ⟨fun z j _ _ => rfl, rfl, fun h => absurd rfl h⟩
  have a3 : rbP (qP (D 32) nb m) (qW f (slC D q q' c)) (8 * m + (128 - 8 * m)) = rbP (qP (D 32) nb m) (qW f (slC D q q' c)) (8 * m) := rbP_no _ _ (128 - 8 * m) (8 * m) (fun i h1 h2 => by
    unfold qP
    rw [show decide (i / 8 < m) = false from decide_eq_false (by omega)]
    simp)
  rw [show 8 * m + (128 - 8 * m) = 128 by omega] at a3
  rw [← a3] at a1
  refine ⟨F, l4, a1, ?_⟩
  rw [n59, h59_0, e, cK0, pR0, h59_5]
  exact a2
end A3
