/-! Contracts: the graph's small ones; the reference's beside them -/
theorem bB_z (p : Prop) [Decidable p] : (bB p = 0) = ¬ p := by
  unfold bB
  by_cases h : p <;> simp [h]
def diffS (n : Int) (sg bs : Int → Int) (b : Int) : Int := if 0 ≤ bs b ∧ bs b < n then i_xor (sg (bs b)) (sg b) else sg b
def adjS (n : Int) (F T ic sg bs : Int → Int) (e : Int) : Int := if (0 ≤ T e ∧ T e < n ∧ 1 < ic (T e)) ∧ (0 ≤ bs (T e) ∧ bs (T e) < n) then i_xor (sg (bs (T e))) (sg (F e)) else 0
/-- how many of the first k are so -/
def cntE (f : Int → Int) (v : Int) : Nat → Int
  | 0 => 0
  | k + 1 => cntE f v k + (if f (k : Int) = v then 1 else 0)
theorem cntE_b (f : Int → Int) (v : Int) : ∀ k, 0 ≤ cntE f v k ∧ cntE f v k ≤ k := by
  intro k
  induction k with
  | zero => simp [cntE]
  | succ k ih =>
    unfold cntE
    split <;> omega
/-- of m the k-th that is so, the first r of which are left; what g says of it -/
def nthE (f g : Int → Int) (v : Int) (m : Nat) : Nat → Int → Int
  | 0, _ => -1
  | r + 1, k => if f ((m - (r + 1) : Nat) : Int) = v then (if k = 0 then g ((m - (r + 1) : Nat) : Int) else nthE f g v m r (k - 1)) else nthE f g v m r k
theorem rz6 : ret01 6 0 = true ∧ ret01 6 1 = true := ⟨rfl, rfl⟩
theorem rz7 : ret01 7 0 = true ∧ ret01 7 1 = true := ⟨rfl, rfl⟩
theorem rz8 : ret01 8 0 = true ∧ ret01 8 1 = true := ⟨rfl, rfl⟩
theorem rz9 : ret01 9 0 = true ∧ ret01 9 1 = true := ⟨rfl, rfl⟩
theorem rz179 : ret01 179 0 = true ∧ ret01 179 1 = true := ⟨rfl, rfl⟩
theorem rz181 : ret01 181 0 = true ∧ ret01 181 1 = true := ⟨rfl, rfl⟩
theorem rz230 : ret01 230 0 = true ∧ ret01 230 1 = true := ⟨rfl, rfl⟩
theorem rz231 : ret01 231 0 = true ∧ ret01 231 1 = true := ⟨rfl, rfl⟩
theorem rz266 : ret01 266 0 = true ∧ ret01 266 1 = true := ⟨rfl, rfl⟩
theorem rz268 : ret01 268 0 = true ∧ ret01 268 1 = true := ⟨rfl, rfl⟩
section G1
variable {xs : Int → Int} {n : Int × Int} {D : Sto}
theorem c179 (d : Nat) (v lo hi : Int) : den (d + 1) 179 [(0, v), (0, lo), (0, hi)] (Sg xs n D) = some ((0, bB (lo ≤ v ∧ v ≤ hi)), Sg xs n D) := by
  simp only [n179, h179_0, h179_14, h179_15, rz179, if_true]
  unfold bB
  (repeat' split) <;> first | rfl | (exfalso; omega)
theorem c180 (d b : Nat) (hb : b < 31) : den (d + 1) 180 [(0, (b : Int))] (Sg xs n D) = some ((0, ((2 ^ b : Nat) : Int)), Sg xs n D) := by
  simp only [n180, h180_0, i_shl_bit hb]
theorem c181 (d x b : Nat) (hx : x < 2147483648) (hb : b < 32) : den (d + 1) 181 [(0, (x : Int)), (0, (b : Int))] (Sg xs n D) = some ((0, bB (x.testBit b = true)), Sg xs n D) := by
  simp only [n181, h181_0, h181_13, rz181, bB, tb_bit hx hb, if_true]
  cases x.testBit b <;> rfl
theorem c6a (d : Nat) (b : Int) : den (d + 1) 6 [(2, 30), (0, b)] (Sg xs n D) = some ((0, bB (0 ≤ b ∧ b < D 30 0)), Sg xs n D) := by
  simp only [n6a, h6a_0, h6a_16, h6a_17, rz6, if_true]
  unfold bB
  (repeat' split) <;> first | rfl | (exfalso; omega)
theorem c6b (d : Nat) (b : Int) : den (d + 1) 6 [(2, 9), (0, b)] (Sg xs n D) = some ((0, bB (0 ≤ b ∧ b < D 9 0)), Sg xs n D) := by
  simp only [n6b, h6b_0, h6b_16, h6b_17, rz6, if_true]
  unfold bB
  (repeat' split) <;> first | rfl | (exfalso; omega)
theorem c7 (d : Nat) (e : Int) : den (d + 1) 7 [(2, 30), (0, e)] (Sg xs n D) = some ((0, bB (0 ≤ e ∧ e < D 30 1)), Sg xs n D) := by
  simp only [n7, h7_0, h7_16, h7_17, rz7, if_true]
  unfold bB
  (repeat' split) <;> first | rfl | (exfalso; omega)
theorem c230 (d : Nat) (b : Int) : den (d + 1) 230 [(2, 129), (0, b)] (Sg xs n D) = some ((0, bB (0 ≤ b ∧ b < D 131 0)), Sg xs n D) := by
  simp only [n230, h230_0, h230_18, h230_19, rz230, if_true]
  unfold bB
  (repeat' split) <;> first | rfl | (exfalso; omega)
theorem c231 (d : Nat) (e : Int) : den (d + 1) 231 [(2, 129), (0, e)] (Sg xs n D) = some ((0, bB (0 ≤ e ∧ e < D 131 1)), Sg xs n D) := by
  simp only [n231, h231_0, h231_18, h231_19, rz231, if_true]
  unfold bB
  (repeat' split) <;> first | rfl | (exfalso; omega)
theorem c8 (d : Nat) (e b : Int) (hm : D 30 1 ≤ 16) : den (d + 2) 8 [(2, 30), (0, e), (0, b)] (Sg xs n D) = some ((0, bB ((0 ≤ e ∧ e < D 30 1) ∧ (0 ≤ b ∧ b < D 30 0) ∧ ¬ D 32 e = b)), Sg xs n D) := by
  simp only [n8, h8_0, c7, cK0, pR0, h8_5, h8_30, h8_31, c6a, h8_13, rz8, if_true, bB_z, inb_eq, decide_eq_true_eq]
  unfold bB
  (repeat' split) <;> first | rfl | (exfalso; omega)
theorem c266 (d : Nat) (e b : Int) (hm : D 131 1 ≤ 16) : den (d + 2) 266 [(2, 129), (0, e), (0, b)] (Sg xs n D) = some ((0, bB ((0 ≤ e ∧ e < D 131 1) ∧ (0 ≤ b ∧ b < D 131 0) ∧ ¬ D 137 e = b)), Sg xs n D) := by
  simp only [n266, h266_0, c231, cK0, pR0, h266_5, h266_30, h266_31, c230, h266_13, rz266, if_true, bB_z, inb_eq, decide_eq_true_eq]
  unfold bB
  (repeat' split) <;> first | rfl | (exfalso; omega)
theorem c9 (d : Nat) (b : Int) (hn : D 30 0 ≤ 8) : den (d + 1) 9 [(2, 30), (0, b)] (Sg xs n D) = some ((0, bB (0 ≤ b ∧ b < D 30 0 ∧ 1 < D 34 b)), Sg xs n D) := by
  simp only [n9, h9_0, h9_26, h9_27, rz9, if_true, inb_eq, decide_eq_true_eq]
  unfold bB
  (repeat' split) <;> first | rfl | (exfalso; omega)
theorem c10 (d : Nat) (b i : Int) (hn : D 30 0 ≤ 8) (ho : 0 ≤ b → b < D 30 0 → D 33 b ≤ 3) : den (d + 2) 10 [(2, 30), (0, b), (0, i)] (Sg xs n D) = some ((0, if 0 ≤ b ∧ b < D 30 0 ∧ 0 ≤ i ∧ i < D 33 b then D 37 (b * 3 + i) else -1), Sg xs n D) := by
  simp only [n10, h10_0, c6a, cK0, pR0, h10_5, h10_26, h10_27, h10_46, bB_z, inb_eq, decide_eq_true_eq, if_true, if_false, Int.reduceEq]
  by_cases h : 0 ≤ b ∧ b < D 30 0 ∧ 0 ≤ i ∧ i < D 33 b
  · have h3 := ho h.1 h.2.1
    rw [w32_idP (z := b * 3) (by omega) (by omega), w32_idP (z := b * 3 + i) (by omega) (by omega)]
    (repeat' split) <;> first | rfl | (exfalso; omega)
  · (repeat' split) <;> first | rfl | (exfalso; omega)
theorem c11a (d : Nat) (b : Int) (hn : D 30 0 ≤ 8) (h0 : 0 ≤ b) (h1 : b < 8) : den (d + 2) 11 [(2, 30), (0, b), (2, 47), (2, 36)] (Sg xs n D) = some ((0, diffS (D 30 0) (D 47) (D 36) b), Sg xs n D) := by
  simp only [n11a, h11a_0, c6a, cK0, pR0, h11a_11, h11a_28, bB_z, inb_eq, decide_eq_true_eq]
  unfold diffS
  (repeat' split) <;> first | rfl | (exfalso; omega)
theorem c12a (d : Nat) (e : Int) (hn : D 30 0 ≤ 8) (h0 : 0 ≤ e) (h1 : e < 16) (h2 : 0 ≤ D 32 e) (h3 : D 32 e < 8) (h4 : 0 ≤ D 31 e) (h5 : D 31 e < 8) : den (d + 2) 12 [(2, 30), (0, e), (2, 47), (2, 36)] (Sg xs n D) = some ((0, adjS (D 30 0) (D 31) (D 32) (D 34) (D 47) (D 36) e), Sg xs n D) := by
  simp only [n12a, h12a_0, c9 _ _ hn, c6a, cK0, pR0, h12a_20, h12a_29, h12a_48, h12a_49, bB_z, inb_eq, decide_eq_true_eq]
  unfold adjS
  (repeat' split) <;> first | rfl | (exfalso; omega)
theorem c11b (d : Nat) (b : Int) (hn : D 30 0 ≤ 8) (h0 : 0 ≤ b) (h1 : b < 8) : den (d + 2) 11 [(2, 30), (0, b), (2, 50), (2, 36)] (Sg xs n D) = some ((0, diffS (D 30 0) (D 50) (D 36) b), Sg xs n D) := by
  simp only [n11b, h11b_0, c6a, cK0, pR0, h11b_11, h11b_28, bB_z, inb_eq, decide_eq_true_eq]
  unfold diffS
  (repeat' split) <;> first | rfl | (exfalso; omega)
theorem c12b (d : Nat) (e : Int) (hn : D 30 0 ≤ 8) (h0 : 0 ≤ e) (h1 : e < 16) (h2 : 0 ≤ D 32 e) (h3 : D 32 e < 8) (h4 : 0 ≤ D 31 e) (h5 : D 31 e < 8) : den (d + 2) 12 [(2, 30), (0, e), (2, 50), (2, 36)] (Sg xs n D) = some ((0, adjS (D 30 0) (D 31) (D 32) (D 34) (D 50) (D 36) e), Sg xs n D) := by
  simp only [n12b, h12b_0, c9 _ _ hn, c6a, cK0, pR0, h12b_20, h12b_29, h12b_48, h12b_49, bB_z, inb_eq, decide_eq_true_eq]
  unfold adjS
  (repeat' split) <;> first | rfl | (exfalso; omega)
theorem c11c (d : Nat) (b : Int) (hn : D 30 0 ≤ 8) (h0 : 0 ≤ b) (h1 : b < 8) : den (d + 2) 11 [(2, 30), (0, b), (2, 55), (2, 56)] (Sg xs n D) = some ((0, diffS (D 30 0) (D 55) (D 56) b), Sg xs n D) := by
  simp only [n11c, h11c_0, c6a, cK0, pR0, h11c_11, h11c_28, bB_z, inb_eq, decide_eq_true_eq]
  unfold diffS
  (repeat' split) <;> first | rfl | (exfalso; omega)
theorem c12c (d : Nat) (e : Int) (hn : D 30 0 ≤ 8) (h0 : 0 ≤ e) (h1 : e < 16) (h2 : 0 ≤ D 32 e) (h3 : D 32 e < 8) (h4 : 0 ≤ D 31 e) (h5 : D 31 e < 8) : den (d + 2) 12 [(2, 30), (0, e), (2, 55), (2, 56)] (Sg xs n D) = some ((0, adjS (D 30 0) (D 31) (D 32) (D 34) (D 55) (D 56) e), Sg xs n D) := by
  simp only [n12c, h12c_0, c9 _ _ hn, c6a, cK0, pR0, h12c_20, h12c_29, h12c_48, h12c_49, bB_z, inb_eq, decide_eq_true_eq]
  unfold adjS
  (repeat' split) <;> first | rfl | (exfalso; omega)
theorem c233 (d : Nat) (s b : Int) (hs : 0 ≤ s) (hs2 : s < 23) (hb : 0 ≤ b) (hb2 : b < 8) : den (d + 1) 233 [(2, 129), (0, s), (0, b)] (Sg xs n D) = some ((0, if b = D 129 46 then D 129 47 else D 154 (8 * s + b)), Sg xs n D) := by
  simp only [n233, h233_0, h233_26, inb_eq, decide_eq_true_eq]
  rw [w32_idP (z := 8 * s) (by omega) (by omega), w32_idP (z := 8 * s + b) (by omega) (by omega)]
  (repeat' split) <;> first | rfl | (exfalso; omega)
theorem c234 (d : Nat) (b : Int) (m : Nat) (hm : D 131 1 = m) (h16 : m ≤ 16) : den (d + 1) 234 [(2, 129), (0, b)] (Sg xs n D) = some ((0, cntE (D 137) b m), Sg xs n D) := by
  rw [n234, h234_0]
  refine (Rn_iter (fun k => [some (2, 129), some (0, b), some (0, cntE (D 137) b k), some (0, (k : Int))]) (fun _ => Sg xs n D) m (fun k hk => ?_)).trans ?_
  · have hc := cntE_b (D 137) b k
    show Rn d 234 4 [some (2, 129), some (0, b), some (0, cntE (D 137) b k), some (0, (k : Int))] [] (Sg xs n D) = Rn d 234 4 [some (2, 129), some (0, b), some (0, cntE (D 137) b (k + 1)), some (0, ((k + 1 : Nat) : Int))] [] (Sg xs n D)
    rw [h234_4]
    simp only [h234_30, hm, inb_eq, decide_eq_true_eq]
    rw [if_neg (by omega), if_pos (by omega)]
    have e1 : w32 ((k : Int) + 1) = ((k + 1 : Nat) : Int) := by rw [w32_idP (by omega) (by omega)]; rfl
    by_cases h : D 137 (k : Int) = b
    · rw [if_neg (by simp [h]), e1, w32_idP (by omega) (by omega)]
      simp [cntE, h]
    · rw [if_pos h, e1, w32_idP (by omega) (by omega)]
      simp [cntE, h]
  · show Rn d 234 4 [some (2, 129), some (0, b), some (0, cntE (D 137) b m), some (0, (m : Int))] [] (Sg xs n D) = _
    rw [h234_4, hm, if_pos (by omega)]
theorem c235 (d : Nat) (b : Int) (m : Nat) (hm : D 131 1 = m) (h16 : m ≤ 16) : den (d + 1) 235 [(2, 129), (0, b)] (Sg xs n D) = some ((0, cntE (D 136) b m), Sg xs n D) := by
  rw [n235, h235_0]
  refine (Rn_iter (fun k => [some (2, 129), some (0, b), some (0, cntE (D 136) b k), some (0, (k : Int))]) (fun _ => Sg xs n D) m (fun k hk => ?_)).trans ?_
  · have hc := cntE_b (D 136) b k
    show Rn d 235 4 [some (2, 129), some (0, b), some (0, cntE (D 136) b k), some (0, (k : Int))] [] (Sg xs n D) = Rn d 235 4 [some (2, 129), some (0, b), some (0, cntE (D 136) b (k + 1)), some (0, ((k + 1 : Nat) : Int))] [] (Sg xs n D)
    rw [h235_4]
    simp only [h235_30, hm, inb_eq, decide_eq_true_eq]
    rw [if_neg (by omega), if_pos (by omega)]
    have e1 : w32 ((k : Int) + 1) = ((k + 1 : Nat) : Int) := by rw [w32_idP (by omega) (by omega)]; rfl
    by_cases h : D 136 (k : Int) = b
    · rw [if_neg (by simp [h]), e1, w32_idP (by omega) (by omega)]
      simp [cntE, h]
    · rw [if_pos h, e1, w32_idP (by omega) (by omega)]
      simp [cntE, h]
  · show Rn d 235 4 [some (2, 129), some (0, b), some (0, cntE (D 136) b m), some (0, (m : Int))] [] (Sg xs n D) = _
    rw [h235_4, hm, if_pos (by omega)]
theorem c236 (d : Nat) (b k : Int) (hk : 0 ≤ k) (hk2 : k < 1000) (m : Nat) (hm : D 131 1 = m) (h16 : m ≤ 16) : den (d + 1) 236 [(2, 129), (0, b), (0, k)] (Sg xs n D) = some ((0, nthE (D 136) (fun z => z) b m m k), Sg xs n D) := by
  rw [n236, h236_0]
  have key : ∀ (r : Nat) (o2 : Option Vv) (k : Int), 0 ≤ k → k < 1000 → r ≤ m → Rn d 236 5 [some (2, 129), some (0, b), o2, some (0, k), some (0, ((m - r : Nat) : Int))] [] (Sg xs n D) = some ((0, nthE (D 136) (fun z => z) b m r k), Sg xs n D) := by
    intro r
    induction r with
    | zero =>
      intro o2 k _ _ _
      rw [h236_5, hm, if_pos (by omega)]
      rfl
    | succ r ih =>
      intro o2 k h0 h1 hr
      have e1 : w32 (((m - (r + 1) : Nat) : Int) + 1) = ((m - r : Nat) : Int) := by rw [w32_idP (by omega) (by omega)]; omega
      rw [h236_5]
      simp only [h236_40, hm, inb_eq, decide_eq_true_eq, e1]
      rw [if_neg (by omega), if_pos (by omega)]
      unfold nthE
      by_cases h : D 136 ((m - (r + 1) : Nat) : Int) = b
      · rw [if_pos h, if_pos h]
        by_cases hz : k = 0
        · rw [if_neg (by simp [hz]), if_pos hz]
          try rw [if_pos (by omega)]
        · rw [if_pos hz, if_neg hz, w32_idP (by omega) (by omega)]
          exact ih none (k + -1) (by omega) (by omega) (by omega)
      · rw [if_neg h, if_neg h]
        exact ih none k h0 h1 (by omega)
  have := key m (some (0, k)) k hk hk2 (Nat.le_refl _)
  rw [Nat.sub_self] at this
  exact this
theorem c237 (d : Nat) (b k : Int) (hk : 0 ≤ k) (hk2 : k < 1000) (m : Nat) (hm : D 131 1 = m) (h16 : m ≤ 16) : den (d + 1) 237 [(2, 129), (0, b), (0, k)] (Sg xs n D) = some ((0, nthE (D 137) (D 136) b m m k), Sg xs n D) := by
  rw [n237, h237_0]
  have key : ∀ (r : Nat) (o2 : Option Vv) (k : Int), 0 ≤ k → k < 1000 → r ≤ m → Rn d 237 5 [some (2, 129), some (0, b), o2, some (0, k), some (0, ((m - r : Nat) : Int))] [] (Sg xs n D) = some ((0, nthE (D 137) (D 136) b m r k), Sg xs n D) := by
    intro r
    induction r with
    | zero =>
      intro o2 k _ _ _
      rw [h237_5, hm, if_pos (by omega)]
      rfl
    | succ r ih =>
      intro o2 k h0 h1 hr
      have e1 : w32 (((m - (r + 1) : Nat) : Int) + 1) = ((m - r : Nat) : Int) := by rw [w32_idP (by omega) (by omega)]; omega
      rw [h237_5]
      simp only [h237_45, hm, inb_eq, decide_eq_true_eq, e1]
      rw [if_neg (by omega), if_pos (by omega)]
      unfold nthE
      by_cases h : D 137 ((m - (r + 1) : Nat) : Int) = b
      · rw [if_pos h, if_pos h]
        by_cases hz : k = 0
        · rw [if_neg (by simp [hz]), if_pos hz]
          try rw [if_pos (by omega)]
        · rw [if_pos hz, if_neg hz, w32_idP (by omega) (by omega)]
          exact ih none (k + -1) (by omega) (by omega) (by omega)
      · rw [if_neg h, if_neg h]
        exact ih none k h0 h1 (by omega)
  have := key m (some (0, k)) k hk hk2 (Nat.le_refl _)
  rw [Nat.sub_self] at this
  exact this
end G1
