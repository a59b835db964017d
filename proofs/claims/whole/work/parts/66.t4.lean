/-! Twins: ways, holds -/
def wsm (f : Nat → Int) : Nat → Int
  | 0 => 0
  | k + 1 => w32 (wsm f k + f k)
def wyR (F T : Int → Int) (m : Nat) : Nat → Int → Int
  | 0, b => if b = 0 then 1 else 0
  | k + 1, b => wsm (fun e => if T e = b then wyR F T m k (F e) else 0) m
theorem w32_w (z : Int) : w32 (w32 z) = w32 z := by
  unfold w32
  omega
theorem wsm_id (f : Nat → Int) : ∀ k, w32 (wsm f k + 0) = wsm f k := by
  intro k
  cases k with
  | zero => rfl
  | succ k =>
    rw [Int.add_zero]
    exact w32_w _
theorem wsm_ex {f g : Nat → Int} : ∀ k, (∀ j, j < k → f j = g j) → wsm f k = wsm g k := by
  intro k
  induction k with
  | zero => intro _; rfl
  | succ k ih =>
    intro h
    unfold wsm
    rw [ih (fun j hj => h j (by omega)), h k (by omega)]
theorem wyR_ex {F T F' T' : Int → Int} {m : Nat} (h : ∀ e : Nat, e < m → F e = F' e ∧ T e = T' e) : ∀ k b, wyR F T m k b = wyR F' T' m k b := by
  intro k
  induction k with
  | zero => intro b; rfl
  | succ k ih =>
    intro b
    unfold wyR
    apply wsm_ex
    intro e he
    rw [(h e he).2, (h e he).1, ih]
def of3 (G D : Sto) : Prop := ∀ z j : Int, ¬ z = 38 → ¬ z = 39 → G z j = D z j
def gcJ : Nat → Int → Int → Int
  | 0, x, _ => x
  | f + 1, x, y => if y = 0 then x else gcJ f y (i_rem x y)
def pwJ (p : Int) : Nat → Int
  | 0 => 1
  | k + 1 => w64 (pwJ p k * p)
def gcL : Nat → Int → Int → Option Int
  | 0, _, _ => none
  | f + 1, x, y => if y = 0 then some x else gcL f y (l_rem x y)
def hoC (o : Int) (n : Nat) : Bool := match gcL 100 (pwJ (w64 (100 - o)) n) (pwJ 100 n) with
  | none => false
  | some g => decide (¬ g = 0) && decide (1 ≤ gcJ 100 (w32 (100 - o)) 100) && decide (l_div (pwJ (w64 (100 - o)) n) g = pwJ (i_div (w32 (100 - o)) (gcJ 100 (w32 (100 - o)) 100)) n) && decide (l_div (pwJ 100 n) g = pwJ (i_div 100 (gcJ 100 (w32 (100 - o)) 100)) n)
theorem ho_all : (List.range 101).all (fun o => (List.range 7).all (fun k => hoC (o : Int) k)) = true := by decide +kernel
theorem ho_at {o k : Nat} (h1 : o ≤ 100) (h2 : k ≤ 6) : ∃ g, gcL 100 (pwJ (w64 (100 - (o : Int))) k) (pwJ 100 k) = some g ∧ ¬ g = 0 ∧ 1 ≤ gcJ 100 (w32 (100 - (o : Int))) 100 ∧ l_div (pwJ (w64 (100 - (o : Int))) k) g = pwJ (i_div (w32 (100 - (o : Int))) (gcJ 100 (w32 (100 - (o : Int))) 100)) k ∧ l_div (pwJ 100 k) g = pwJ (i_div 100 (gcJ 100 (w32 (100 - (o : Int))) 100)) k := by
  have t1 := List.all_eq_true.mp ho_all o (List.mem_range.mpr (by omega))
  have t2 := List.all_eq_true.mp t1 k (List.mem_range.mpr (by omega))
  unfold hoC at t2
  cases hg : gcL 100 (pwJ (w64 (100 - (o : Int))) k) (pwJ 100 k) with
  | none => rw [hg] at t2; cases t2
  | some g =>
    rw [hg] at t2
    simp only [Bool.and_eq_true, decide_eq_true_eq] at t2
    exact ⟨g, rfl, t2.1.1.1, t2.1.1.2, t2.1.2, t2.2⟩
section T66
variable {xs : Int → Int} {n : Int × Int} {D : Sto} {nb m : Nat}
theorem c300 (H : RG D nb m) : ∀ (k d : Nat) (b : Int), k < 1000 → den (d + k + 1) 300 [(2, 129), (0, b), (0, (k : Int))] (Sg xs n D) = some ((0, wyR (D 136) (D 137) m k b), Sg xs n D) := by
  obtain ⟨hnb, h8, hm, h16, hE⟩ := H
  intro k
  induction k with
  | zero =>
    intro d b _
    rw [n300, h300_0, if_neg (by simp)]
    simp only [h300_13, if_sn]
    rfl
  | succ k ih =>
    intro d b hk
    rw [show d + (k + 1) + 1 = (d + k + 1) + 1 by omega, n300, h300_0, if_pos (by omega)]
    refine (Rn_iter (fun j => [some (2, 129), some (0, b), some (0, ((k + 1 : Nat) : Int)), some (0, wsm (fun e => if D 137 e = b then wyR (D 136) (D 137) m k (D 136 e) else 0) j), some (0, (j : Int))]) (fun _ => Sg xs n D) m (fun j hj => ?_)).trans ?_
    · show Rn (d + k + 1) 300 19 [some (2, 129), some (0, b), some (0, ((k + 1 : Nat) : Int)), some (0, wsm (fun e => if D 137 e = b then wyR (D 136) (D 137) m k (D 136 e) else 0) j), some (0, (j : Int))] [] (Sg xs n D) = Rn (d + k + 1) 300 19 [some (2, 129), some (0, b), some (0, ((k + 1 : Nat) : Int)), some (0, w32 (wsm (fun e => if D 137 e = b then wyR (D 136) (D 137) m k (D 136 e) else 0) j + (if D 137 j = b then wyR (D 136) (D 137) m k (D 136 j) else 0))), some (0, ((j + 1 : Nat) : Int))] [] (Sg xs n D)
      rw [h300_19, hm, if_neg (by omega), if_pos (inb_t (by omega) (by omega)), if_pos (inb_t (by omega) (by omega)), show w32 (((k + 1 : Nat) : Int) - 1) = (k : Int) by rw [w32_idP (by omega) (by omega)]; omega, ih d (D 136 j) (by omega), cK0, pR0, h300_56]
      simp only [h300_60, w1 (show j < 2147483647 by omega)]
      by_cases c : D 137 j = b
      · rw [if_neg (by simp [c]), if_pos c]
      · rw [if_pos c, if_neg c]
    · show Rn (d + k + 1) 300 19 [some (2, 129), some (0, b), some (0, ((k + 1 : Nat) : Int)), some (0, wsm (fun e => if D 137 e = b then wyR (D 136) (D 137) m k (D 136 e) else 0) m), some (0, (m : Int))] [] (Sg xs n D) = _
      rw [h300_19, hm, if_pos (by omega)]
      rfl
theorem c25 (d : Nat) (H : EG D nb m) : ∃ G, of3 G D ∧ (∀ b : Nat, b < nb → G 38 b = wsm (fun e => if D 32 e = b then D 38 (D 31 e) else 0) m) ∧ den (d + 1) 25 [(2, 30)] (Sg xs n D) = some ((9, 0), Sg xs n G) := by
  obtain ⟨hnb, h8, hm, h16, hE⟩ := H
  have k1 : ∀ r j (G : Sto), j + r = nb → (∀ z i : Int, ¬ z = 39 → G z i = D z i) → (∀ b : Nat, b < j → G 39 b = 0) → ∃ G', (∀ z i : Int, ¬ z = 39 → G' z i = D z i) ∧ (∀ b : Nat, b < nb → G' 39 b = 0) ∧ Rn d 25 2 [some (2, 30), some (0, (j : Int))] [] (Sg xs n G) = Rn d 25 25 [some (2, 30), some (0, 0)] [] (Sg xs n G') := by
    intro r
    induction r with
    | zero =>
      intro j G hj hG hz
      obtain rfl : j = nb := by omega
      refine ⟨G, hG, hz, ?_⟩
      rw [h25_2, hG 30 0 (by decide), hnb, if_pos (by omega)]
    | succ r ih =>
      intro j G hj hG hz
      obtain ⟨G', a1, a2, a3⟩ := ih (j + 1) (up G 39 j 0) (by omega) (fun z i h => by rw [up_ne h]; exact hG z i h) (fun c hc => by
        by_cases e : c = j
        · rw [e, up_at]
        · rw [up_ni (by omega)]
          exact hz c (by omega))
      refine ⟨G', a1, a2, ?_⟩
      rw [h25_2, hG 30 0 (by decide), hnb, if_neg (by omega), if_pos (inb_t (by omega) (by omega)), w1 (by omega)]
      exact a3
  have k2 : ∀ r j (G : Sto), j + r = m → (∀ z i : Int, ¬ z = 39 → G z i = D z i) → (∀ b : Nat, b < nb → G 39 b = wsm (fun e => if D 32 e = b then D 38 (D 31 e) else 0) j) → ∃ G', (∀ z i : Int, ¬ z = 39 → G' z i = D z i) ∧ (∀ b : Nat, b < nb → G' 39 b = wsm (fun e => if D 32 e = b then D 38 (D 31 e) else 0) m) ∧ Rn d 25 25 [some (2, 30), some (0, (j : Int))] [] (Sg xs n G) = some ((9, 0), Sg xs n (cpy G' 39 0 38 0 nb)) := by
    intro r
    induction r with
    | zero =>
      intro j G hj hG hz
      obtain rfl : j = m := by omega
      refine ⟨G, hG, hz, ?_⟩
      rw [h25_25, hG 30 1 (by decide), hG 30 0 (by decide), hnb, hm, if_pos (by omega), if_pos (by rw [decide_eq_true_eq]; omega)]
    | succ r ih =>
      intro j G hj hG hz
      obtain ⟨⟨f1, f2⟩, f3, f4⟩ := hE j (by omega)
      have e32 : G 32 = D 32 := funext (fun i => hG 32 i (by decide))
      have e31 : G 31 = D 31 := funext (fun i => hG 31 i (by decide))
      have e38 : G 38 = D 38 := funext (fun i => hG 38 i (by decide))
      obtain ⟨G', a1, a2, a3⟩ := ih (j + 1) (up G 39 (D 32 j) (w32 (G 39 (D 32 j) + D 38 (D 31 j)))) (by omega) (fun z i h => by rw [up_ne h]; exact hG z i h) (fun c hc => by
        show _ = w32 (wsm (fun e => if D 32 e = c then D 38 (D 31 e) else 0) j + (if D 32 j = c then D 38 (D 31 j) else 0))
        by_cases e : (c : Int) = D 32 j
        · rw [e, up_at, if_pos rfl]
          have := hz c hc
          rw [e] at this
          rw [this]
        · rw [up_ni e, if_neg (fun w => e w.symm), wsm_id]
          exact hz c hc)
      refine ⟨G', a1, a2, ?_⟩
      rw [h25_25, hG 30 1 (by decide), hm, if_neg (by omega), e31, e32, e38, if_pos (inb_t (by omega) (by omega)), if_pos (inb_t f3 (by omega)), if_pos (inb_t (by omega) (by omega)), if_pos (inb_t f1 (by omega)), if_pos (inb_t f3 (by omega)), w1 (by omega)]
      exact a3
  obtain ⟨G1, a1, a2, a3⟩ := k1 nb 0 D (by omega) (fun _ _ _ => rfl) (fun b hb => by omega)
  obtain ⟨G2, b1, b2, b3⟩ := k2 m 0 G1 (by omega) a1 (fun b hb => a2 b hb)
  refine ⟨cpy G2 39 0 38 0 nb, ?_, ?_, ?_⟩
  · intro z j h1 h2
    rw [cpy_ne h1]
    exact b1 z j h2
  · intro b hb
    rw [cpy_at (by omega) (by omega)]
    exact b2 b hb
  · rw [n25, h25_0]
    exact a3.trans b3
theorem of3_EG {G : Sto} (h : of3 G D) (H : EG D nb m) : EG G nb m := by
  have f : ∀ z : Int, ¬ z = 38 → ¬ z = 39 → G z = D z := fun z h1 h2 => funext (fun j => h z j h1 h2)
  unfold EG
  rw [f 30 (by decide) (by decide), f 31 (by decide) (by decide), f 32 (by decide) (by decide)]
  exact H
theorem c24 (d b k : Nat) (H : EG D nb m) (hb : b < nb) (hk : k < 1000) : ∃ G, of3 G D ∧ den (d + 2) 24 [(2, 30), (0, (b : Int)), (0, (k : Int))] (Sg xs n D) = some ((0, wyR (D 31) (D 32) m k b), Sg xs n G) := by
  have H' := H
  obtain ⟨hnb, h8, hm, h16, hE⟩ := H
  have k1 : ∀ r j (G : Sto), j + r = nb → of3 G D → (∀ c : Nat, c < j → G 38 c = wyR (D 31) (D 32) m 0 c) → ∃ G', of3 G' D ∧ (∀ c : Nat, c < nb → G' 38 c = wyR (D 31) (D 32) m 0 c) ∧ Rn (d + 1) 24 2 [some (2, 30), some (0, (b : Int)), some (0, (k : Int)), some (0, (j : Int))] [] (Sg xs n G) = Rn (d + 1) 24 33 [some (2, 30), some (0, (b : Int)), some (0, (k : Int)), some (0, 0)] [] (Sg xs n G') := by
    intro r
    induction r with
    | zero =>
      intro j G hj hG hz
      obtain rfl : j = nb := by omega
      refine ⟨G, hG, hz, ?_⟩
      rw [h24_2, hG 30 0 (by decide) (by decide), hnb, if_pos (by omega)]
    | succ r ih =>
      intro j G hj hG hz
      obtain ⟨G', a1, a2, a3⟩ := ih (j + 1) (up G 38 j (if (j : Int) = 0 then 1 else 0)) (by omega) (fun z i h1 h2 => by rw [up_ne h1]; exact hG z i h1 h2) (fun c hc => by
        by_cases e : c = j
        · rw [e, up_at]
          rfl
        · rw [up_ni (by omega)]
          exact hz c (by omega))
      refine ⟨G', a1, a2, ?_⟩
      rw [h24_2, hG 30 0 (by decide) (by decide), hnb, if_neg (by omega), ← a3]
      simp only [h24_24, inb_t (show (0 : Int) ≤ (j : Int) by omega) (show (j : Int) < 8 by omega), if_true, w1 (show j < 2147483647 by omega)]
      by_cases e : (j : Int) = 0
      · rw [if_neg (by simp [e]), if_pos e]
      · rw [if_pos e, if_neg e]
  have k2 : ∀ r j (G : Sto), j + r = k → of3 G D → (∀ c : Nat, c < nb → G 38 c = wyR (D 31) (D 32) m j c) → ∃ G', of3 G' D ∧ Rn (d + 1) 24 33 [some (2, 30), some (0, (b : Int)), some (0, (k : Int)), some (0, (j : Int))] [] (Sg xs n G) = some ((0, wyR (D 31) (D 32) m k b), Sg xs n G') := by
    intro r
    induction r with
    | zero =>
      intro j G hj hG hz
      obtain rfl : j = k := by omega
      refine ⟨G, hG, ?_⟩
      rw [h24_33, if_pos (by omega), if_pos (inb_t (by omega) (by omega)), hz b hb]
    | succ r ih =>
      intro j G hj hG hz
      obtain ⟨G1, a1, a2, a3⟩ := c25 (xs := xs) (n := n) d (of3_EG hG H')
      have e32 : G 32 = D 32 := funext (fun i => hG 32 i (by decide) (by decide))
      have e31 : G 31 = D 31 := funext (fun i => hG 31 i (by decide) (by decide))
      obtain ⟨G', b1, b2⟩ := ih (j + 1) G1 (by omega) (fun z i h1 h2 => (a1 z i h1 h2).trans (hG z i h1 h2)) (fun c hc => by
        rw [a2 c hc, e31, e32]
        show _ = wsm (fun e => if D 32 e = c then wyR (D 31) (D 32) m j (D 31 e) else 0) m
        apply wsm_ex
        intro e he
        obtain ⟨⟨f1, f2⟩, f3, f4⟩ := hE e he
        have := hz (D 31 e).toNat (by omega)
        rw [Int.toNat_of_nonneg f1] at this
        rw [this])
      refine ⟨G', b1, ?_⟩
      rw [h24_33, if_neg (by omega), a3, cK9]
      show Rn (d + 1) 24 42 [some (2, 30), some (0, (b : Int)), some (0, (k : Int)), some (0, (j : Int))] [] (Sg xs n G1) = _
      rw [h24_42, w1 (by omega)]
      exact b2
  obtain ⟨G1, a1, a2, a3⟩ := k1 nb 0 D (by omega) (fun _ _ _ _ => rfl) (fun b hb => by omega)
  obtain ⟨G2, b1, b2⟩ := k2 k 0 G1 (by omega) a1 a2
  refine ⟨G2, b1, ?_⟩
  rw [n24, h24_0]
  exact a3.trans b2
theorem sim_of3 {G : Sto} (h : of3 G D) : sim G D := fun z j hz => h z j (by unfold scr at hz; omega) (by unfold scr at hz; omega)
theorem ts_ways (R : Rel D) (d : Nat) (b k : Int) : tws xs n (d + 40) 0 165 301 [(0, b), (0, k)] D := by
  have R0 := R
  obtain ⟨nb, m, K, X⟩ := R
  obtain ⟨⟨g1, g2, g3, g4⟩, hB, hS, h46, h45, hRB⟩ := RelK_G K
  have h8 := g1.2.1
  by_cases hb : 0 ≤ b ∧ b < (nb : Int)
  · have eb : (b.toNat : Int) = b := Int.toNat_of_nonneg hb.1
    by_cases hk : 0 ≤ k ∧ k ≤ 9
    · have ek : (k.toNat : Int) = k := Int.toNat_of_nonneg hk.1
      obtain ⟨G, a1, a2⟩ := c24 (xs := xs) (n := n) (d + 37) b.toNat k.toNat g1 (by omega) (by omega)
      rw [eb, ek] at a2
      have K1 := RelK_sim K (sim_of3 a1)
      have g2' := (RelK_G K1).1.2.1
      have e1 := c300 (xs := xs) (n := n) (RG_0 (v := 0) g2') k.toNat (d + 38 - k.toNat) b (by omega)
      rw [ek, show d + 38 - k.toNat + k.toNat + 1 = d + 39 by omega, (mrk_v (by decide) : mrk (up G 129 0 0) G).2.2.1, (mrk_v (by decide) : mrk (up G 129 0 0) G).2.2.2.1] at e1
      have ew : wyR (D 31) (D 32) m k.toNat b = wyR (G 136) (G 137) m k.toNat b := wyR_ex (fun e he => by
        have := g3 e he
        rw [a1 136 _ (by decide) (by decide), a1 137 _ (by decide) (by decide)]
        exact this) k.toNat b
      rw [← ew] at e1
      refine tws_sim R0 (D1 := G) (D2 := up G 129 0 0) (a := wyR (D 31) (D 32) m k.toNat b) ?_ ?_ (sim_t sim_0 (sim_of3 a1))
      · rw [n165, h165_0, c6n (d + 38) b g1, bB_t hb, cK0, pR0, h165_11, if_neg (by decide), c179, bB_t hk, cK0, pR0, h165_21, if_pos (by decide), a2, cK0, pR0, h165_38]
      · rw [n301, h301_0, c230n (d + 38) b (RG_0 g2'), bB_t hb, cK0, pR0, h301_10, if_neg (by decide), if_neg (by omega), if_neg (by omega), e1, cK0, pR0, h301_29, h301_33]
    · refine tws_sim R0 (D1 := D) (D2 := up D 129 0 0) (a := -1) ?_ ?_ sim_0
      · rw [n165, h165_0, c6n (d + 38) b g1, bB_t hb, cK0, pR0, h165_11, if_neg (by decide), c179, bB_f hk, cK0, pR0, h165_21, if_neg (by decide), h165_24]
      · rw [n301, h301_0, c230n (d + 38) b (RG_0 g2), bB_t hb, cK0, pR0, h301_10, if_neg (by decide), h301_32, h301_33]
        by_cases q : k < 0
        · rw [if_pos q]
        · rw [if_neg q, if_pos (by omega)]
  · refine tws_sim R0 (D1 := D) (D2 := up D 129 0 0) (a := -1) ?_ ?_ sim_0
    · rw [n165, h165_0, c6n (d + 38) b g1, bB_f hb, cK0, pR0, h165_11, if_pos rfl, h165_24]
    · rw [n301, h301_0, c230n (d + 38) b (RG_0 g2), bB_f hb, cK0, pR0, h301_10, if_pos rfl, h301_32, h301_33]
theorem c182 (d : Nat) (a b : Int) : den (d + 1) 182 [(0, a), (0, b)] (Sg xs n D) = some ((0, gcJ 100 a b), Sg xs n D) := by
  have key : ∀ r j (x y : Int) o0 o1 o5, j + r = 100 → Rn d 182 7 [o0, o1, some (0, x), some (0, y), some (0, ((j : Nat) : Int)), o5] [] (Sg xs n D) = some ((0, gcJ r x y), Sg xs n D) := by
    intro r
    induction r with
    | zero =>
      intro j x y o0 o1 o5 hj
      rw [h182_7, if_pos (by omega), h182_34]
      rfl
    | succ r ih =>
      intro j x y o0 o1 o5 hj
      rw [h182_7, if_neg (by omega), h182_34]
      unfold gcJ
      by_cases h : y = 0
      · rw [if_pos h, if_pos h]
      · rw [if_neg h, if_neg h, if_pos (by simp [h]), w1 (by omega)]
        exact ih (j + 1) _ _ _ _ _ (by omega)
  rw [n182, h182_0]
  exact key 100 0 a b _ _ _ (by omega)
theorem ts_holds (R : Rel D) (d : Nat) (k w : Int) : tws xs n (d + 40) 1 164 299 [(0, k), (0, w)] D := by
  have R0 := R
  obtain ⟨nb, m, K, X⟩ := R
  obtain ⟨G2_, ⟨p1, p2, ⟨o1, o2, o3⟩, p4⟩, L⟩ := X
  have eo : ((D 131 4).toNat : Int) = D 131 4 := Int.toNat_of_nonneg o2
  by_cases hk : (0 ≤ k ∧ k ≤ 6) ∧ (0 ≤ w ∧ w ≤ 1)
  · have ek : (k.toNat : Int) = k := Int.toNat_of_nonneg hk.1.1
    obtain ⟨g, t1, t2, t3, t4, t5⟩ := ho_at (o := (D 131 4).toNat) (k := k.toNat) (by omega) (by omega)
    rw [eo] at t1 t3 t4 t5
    have pw : ∀ (p : Int) r j (o3' : Option Vv), j + r = k.toNat → Rn (d + 39) 164 78 [none, some (0, k), none, o3', some (1, p), none, some (1, pwJ p j), none, some (0, ((j : Nat) : Int))] [] (Sg xs n D) = some ((1, pwJ p k.toNat), Sg xs n D) := by
      intro p r
      induction r with
      | zero =>
        intro j o3' hj
        obtain rfl : j = k.toNat := by omega
        rw [h164_78, if_pos (by omega)]
      | succ r ih =>
        intro j o3' hj
        rw [h164_78, if_neg (by omega), w1 (by omega)]
        exact ih (j + 1) none (by omega)
    have rp : ∀ r j, j + r = k.toNat → Rn (d + 39) 299 36 [some (2, 129), some (0, k), some (0, w), some (1, pwJ (w64 (100 - D 131 4)) j), none, some (1, pwJ 100 j), none, some (0, ((j : Nat) : Int)), none, none, none, none, none] [] (Sg xs n (up D 129 0 0)) = Rn (d + 39) 299 77 [some (2, 129), some (0, k), some (0, w), some (1, pwJ (w64 (100 - D 131 4)) k.toNat), none, some (1, pwJ 100 k.toNat), none, some (1, pwJ (w64 (100 - D 131 4)) k.toNat), none, some (1, pwJ 100 k.toNat), none, none, none] [] (Sg xs n (up D 129 0 0)) := by
      intro r
      induction r with
      | zero =>
        intro j hj
        obtain rfl : j = k.toNat := by omega
        rw [h299_36, if_pos (by omega)]
      | succ r ih =>
        intro j hj
        rw [h299_36, if_neg (by omega), w1 (by omega), up_ne (by decide)]
        exact ih (j + 1) (by omega)
    have rg : ∀ (A B : Int) f x y z o0 o1 o11, gcL f x y = some z → ¬ z = 0 → Rn (d + 39) 299 77 [o0, o1, some (0, w), some (1, A), none, some (1, B), none, some (1, x), none, some (1, y), none, o11, none] [] (Sg xs n (up D 129 0 0)) = some ((1, if w = 0 then l_div A z else l_div B z), Sg xs n (up D 129 0 0)) := by
      intro A B f
      induction f with
      | zero => intro x y z o0 o1 o11 h; cases h
      | succ f ih =>
        intro x y z o0 o1 o11 h hz
        unfold gcL at h
        rw [h299_77]
        simp only [h299_118]
        by_cases c : y = 0
        · rw [if_pos c] at h
          have hx : x = z := Option.some.inj h
          have hz' : (!decide (z = 0)) = true := by simp [hz]
          rw [if_pos (by rw [c]; rfl), hx]
          by_cases q : w = 0
          · rw [if_neg (fun t => t q), if_pos hz', if_pos q]
          · rw [if_pos q, if_pos hz', if_neg q]
        · rw [if_neg c] at h
          rw [if_neg (by unfold l_cmp; split <;> omega), if_pos (by simp [c])]
          exact ih _ _ _ _ _ _ h hz
    refine tws_sim R0 (D1 := D) (D2 := up D 129 0 0) (a := if w = 0 then l_div (pwJ (w64 (100 - D 131 4)) k.toNat) g else l_div (pwJ 100 k.toNat) g) ?_ ?_ sim_0
    · rw [n164, h164_0, c179, bB_t hk.1, cK0, pR0, h164_7, if_neg (by decide), c179, bB_t hk.2, cK0, pR0, h164_16, if_pos (by decide), c182, cK0, pR0, h164_38, o1, if_pos (by omega)]
      simp only [h164_67]
      rw [if_pos (show (!decide (gcJ 100 (w32 (100 - D 131 4)) 100 = 0)) = true by simp; omega), if_pos (show (!decide (gcJ 100 (w32 (100 - D 131 4)) 100 = 0)) = true by simp; omega), t4, t5]
      have q1 := pw (i_div (w32 (100 - D 131 4)) (gcJ 100 (w32 (100 - D 131 4)) 100)) k.toNat 0 (some (0, gcJ 100 (w32 (100 - D 131 4)) 100)) (by omega)
      have q2 := pw (i_div 100 (gcJ 100 (w32 (100 - D 131 4)) 100)) k.toNat 0 (some (0, gcJ 100 (w32 (100 - D 131 4)) 100)) (by omega)
      by_cases q : w = 0
      · rw [if_neg (by simp [q]), if_pos q]
        exact q1
      · rw [if_pos q, if_neg q]
        exact q2
    · rw [n299, h299_0, if_neg (by omega), if_neg (by omega), if_neg (by omega), if_pos (by omega)]
      exact (rp k.toNat 0 (by omega)).trans (rg _ _ 100 _ _ g _ _ _ t1 t2)
  · refine tws_sim R0 (D1 := D) (D2 := up D 129 0 0) (a := -1) ?_ ?_ sim_0
    · rw [n164, h164_0, c179, cK0, pR0, h164_7, c179, cK0, pR0, h164_16, bB_if]
      simp only [h164_19]
      by_cases h1 : 0 ≤ k ∧ k ≤ 6
      · rw [if_pos h1, bB_f (fun w => hk ⟨h1, w⟩), if_neg (by decide)]
      · rw [if_neg h1]
    · rw [n299, h299_0]
      simp only [h299_24]
      (repeat' split) <;> first | rfl | (exfalso; omega)
end T66
