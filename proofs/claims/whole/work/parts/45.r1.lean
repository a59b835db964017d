/-! Contracts: the reference's marks -/
theorem tb_val {x b : Nat} (hx : x < 2147483648) (hb : b < 32) : i_and (i_shr (x : Int) (b : Int)) 1 = bB (x.testBit b = true) := by
  have h1 : x >>> b < 2147483648 := Nat.lt_of_le_of_lt (Nat.shiftRight_le x b) hx
  rw [i_shr_nat hx hb, show (1 : Int) = ((1 : Nat) : Int) from rfl, i_and_nat h1 (by decide)]
  have e : x.testBit b = true ↔ x >>> b &&& 1 ≠ 0 := by
    rw [Nat.testBit, Nat.and_comm]
    simp
  have e2 : x >>> b &&& 1 ≤ 1 := Nat.and_le_right
  unfold bB
  by_cases h : x.testBit b = true
  · rw [if_pos h]
    have t := e.mp h
    revert t e2
    generalize x >>> b &&& 1 = y
    intro t e2
    omega
  · rw [if_neg h]
    have t : x >>> b &&& 1 = 0 := by
      apply Classical.byContradiction
      intro q
      exact h (e.mpr q)
    rw [t]
    rfl
theorem bB_1 (p : Prop) [Decidable p] : (bB p = 1) = p := by
  unfold bB
  by_cases h : p <;> simp [h]
theorem bB_if1 (p : Prop) [Decidable p] {α : Type} (a b : α) : (if ¬ bB p = 1 then a else b) = if p then b else a := by
  unfold bB
  by_cases h : p <;> simp [h]
/-- the reference's graph -/
def RG (D : Sto) (nb m : Nat) : Prop := D 131 0 = nb ∧ nb ≤ 8 ∧ D 131 1 = m ∧ m ≤ 16 ∧ ∀ k : Nat, k < m → (0 ≤ D 136 k ∧ D 136 k < nb) ∧ (0 ≤ D 137 k ∧ D 137 k < nb)
def rbs (D : Sto) (m : Nat) (b : Int) : Int := if D 129 45 = 0 then (if D 135 b = 0 then nthE (D 137) (D 136) b m m 0 else D 135 b - 1) else D 156 b
def rsg (D : Sto) (s b : Int) : Int := if b = D 129 46 then D 129 47 else D 154 (8 * s + b)
def rdf (D : Sto) (m : Nat) (s b : Int) : Int := if rbs D m b = -1 then rsg D s b else i_xor (rsg D s (rbs D m b)) (rsg D s b)
def raj (D : Sto) (m : Nat) (s e : Int) : Int := if cntE (D 137) (D 137 e) m < 2 then 0 else i_xor (rsg D s (rbs D m (D 137 e))) (rsg D s (D 136 e))
def rmb (D : Sto) (m : Nat) (s b mark adj : Int) : Int := i_xor (i_xor mark (rdf D m s b)) (if 1 < cntE (D 137) b m then adj else 0)
def rmk (D : Sto) (m : Nat) (e b : Int) : Int := rmb D m 0 b (rsg D 0 (D 136 e)) (raj D m 0 e)
/-- bases as numbers of blocks -/
def RB (D : Sto) (nb m : Nat) : Prop := ∀ b : Nat, b < nb → -1 ≤ rbs D m b ∧ rbs D m b < 8 ∧ (0 < cntE (D 137) b m → 0 ≤ rbs D m b) ∧ 0 ≤ D 135 b ∧ D 135 b ≤ 8
theorem rz245 : ret01 245 0 = true ∧ ret01 245 1 = true := ⟨rfl, rfl⟩
theorem rz225 : ret01 225 0 = true ∧ ret01 225 1 = true := ⟨rfl, rfl⟩
section R1
variable {xs : Int → Int} {n : Int × Int} {D : Sto} {nb m : Nat}
theorem c238 (d b : Nat) (H : RG D nb m) (hB : RB D nb m) (hb : b < nb) : den (d + 2) 238 [(2, 129), (0, (b : Int))] (Sg xs n D) = some ((0, rbs D m b), Sg xs n D) := by
  obtain ⟨hnb, h8, hm, h16, hE⟩ := H
  obtain ⟨-, -, -, b1, b2⟩ := hB b hb
  simp only [n238, h238_0, h238_40, c237 d (b : Int) 0 (by decide) (by decide) m hm h16, cK0, pR0, inb_eq, decide_eq_true_eq]
  rw [w32_idP (z := D 135 b - 1) (by omega) (by omega)]
  unfold rbs
  (repeat' split) <;> first | rfl | (exfalso; omega)
theorem c233' (d : Nat) (s b : Int) (hs : 0 ≤ s) (hs2 : s < 23) (hb : 0 ≤ b) (hb2 : b < 8) : den (d + 1) 233 [(2, 129), (0, s), (0, b)] (Sg xs n D) = some ((0, rsg D s b), Sg xs n D) := c233 d s b hs hs2 hb hb2
theorem c239 (d b : Nat) (s : Int) (H : RG D nb m) (hB : RB D nb m) (hb : b < nb) (hs : 0 ≤ s) (hs2 : s < 23) : den (d + 3) 239 [(2, 129), (0, s), (0, (b : Int))] (Sg xs n D) = some ((0, rdf D m s b), Sg xs n D) := by
  have h8 := H.2.1
  have b0 := hB b hb
  simp only [n239, h239_0, c238 d b H hB hb, cK0, pR0, h239_5, c233' (d + 1) s (b : Int) hs hs2 (by omega) (by omega), h239_17, h239_26, h239_32, h239_33]
  unfold rdf
  by_cases h : rbs D m b = -1
  · rw [if_neg (by simp [h]), if_pos h]
  · rw [if_pos h, if_neg h, c233' (d + 1) s (rbs D m b) hs hs2 (by omega) (by omega)]
    simp only [cK0, pR0, h239_26, c233' (d + 1) s (b : Int) hs hs2 (show (0 : Int) ≤ (b : Int) by omega) (show (b : Int) < 8 by omega), h239_32, h239_33]
theorem cnt_pos {f : Int → Int} {v : Int} {k : Nat} : ∀ m, k < m → f k = v → 0 < cntE f v m := by
  intro m
  induction m with
  | zero => intro h; omega
  | succ m ih =>
    intro h hv
    have h0 := cntE_b f v m
    unfold cntE
    by_cases hk : k = m
    · subst hk
      rw [if_pos hv]
      omega
    · have := ih (by omega) hv
      split <;> omega
theorem c240 (d e : Nat) (s : Int) (H : RG D nb m) (hB : RB D nb m) (he : e < m) (hs : 0 ≤ s) (hs2 : s < 23) : den (d + 3) 240 [(2, 129), (0, s), (0, (e : Int))] (Sg xs n D) = some ((0, raj D m s e), Sg xs n D) := by
  have H' := H
  obtain ⟨hnb, h8, hm, h16, hE⟩ := H
  obtain ⟨⟨f1, f2⟩, f3, f4⟩ := hE e he
  have et : D 137 e = ((D 137 e).toNat : Int) := by omega
  have hbt := hB (D 137 e).toNat (by omega)
  rw [← et] at hbt
  have hp := cnt_pos (f := D 137) (v := D 137 e) (k := e) m he rfl
  have e238 := c238 (xs := xs) (n := n) d (D 137 e).toNat H' hB (by omega)
  rw [← et] at e238
  simp only [n240, h240_0, h240_10, h240_30, h240_33, h240_44, h240_45, c234 (d + 1) (D 137 e) m hm h16, e238, cK0, pR0, inb_t (show (0 : Int) ≤ (e : Int) by omega) (show (e : Int) < 32 by omega), if_true, c233' (d + 1) s (D 136 e) hs hs2 f1 (by omega), c233' (d + 1) s (rbs D m (D 137 e)) hs hs2 (hbt.2.2.1 hp) hbt.2.1]
  unfold raj
  (repeat' split) <;> first | rfl | (exfalso; omega)
theorem c241 (d b : Nat) (s mark adj : Int) (H : RG D nb m) (hB : RB D nb m) (hb : b < nb) (hs : 0 ≤ s) (hs2 : s < 23) : den (d + 4) 241 [(2, 129), (0, s), (0, (b : Int)), (0, mark), (0, adj)] (Sg xs n D) = some ((0, rmb D m s b mark adj), Sg xs n D) := by
  simp only [n241, h241_0, h241_7, h241_13, h241_23, c239 d b s H hB hb hs hs2, c234 (d + 2) (b : Int) m H.2.2.1 H.2.2.2.1, cK0, pR0]
  unfold rmb
  (repeat' split) <;> first | rfl | (exfalso; omega)
theorem c267 (d e b : Nat) (H : RG D nb m) (hB : RB D nb m) (he : e < m) (hb : b < nb) : den (d + 5) 267 [(2, 129), (0, (e : Int)), (0, (b : Int))] (Sg xs n D) = some ((0, rmk D m e b), Sg xs n D) := by
  have H' := H
  obtain ⟨hnb, h8, hm, h16, hE⟩ := H
  obtain ⟨⟨f1, f2⟩, f3, f4⟩ := hE e he
  simp only [n267, h267_0, h267_14, h267_20, h267_23, c233' (d + 3) 0 (D 136 e) (by decide) (by decide) f1 (by omega), c240 (d + 1) e 0 H' hB he (by decide) (by decide), c241 d b 0 (rsg D 0 (D 136 e)) (raj D m 0 e) H' hB hb (by decide) (by decide), cK0, pR0, inb_t (show (0 : Int) ≤ (e : Int) by omega) (show (e : Int) < 32 by omega), if_true]
  rfl
theorem c268 (d e b : Nat) (H : RG D nb m) (hB : RB D nb m) (he : e < m) (hb : b < nb) : den (d + 6) 268 [(2, 129), (0, (e : Int)), (0, (b : Int))] (Sg xs n D) = some ((0, bB (rmk D m e b = rsg D 0 b)), Sg xs n D) := by
  have h8 := H.2.1
  simp only [n268, h268_0, h268_6, h268_12, h268_20, c267 d e b H hB he hb, c233' (d + 4) 0 (b : Int) (by decide) (by decide) (show (0 : Int) ≤ (b : Int) by omega) (show (b : Int) < 8 by omega), cK0, pR0, rz268, if_true]
  unfold bB
  (repeat' split) <;> first | rfl | (exfalso; omega)
theorem c245 (d ck b : Nat) (s mark : Int) (hc : ck < 65536) (hb : b < 8) (hs : 0 ≤ s) (hs2 : s < 23) : den (d + 2) 245 [(2, 129), (0, (ck : Int)), (0, s), (0, (b : Int)), (0, mark)] (Sg xs n D) = some ((0, bB (ck.testBit b = true ∧ ¬ mark = rsg D s b)), Sg xs n D) := by
  simp only [n245, h245_0, h245_17, h245_24, h245_25, tb_val (show ck < 2147483648 by omega) (show b < 32 by omega), bB_if1, c233' d s (b : Int) hs hs2 (show (0 : Int) ≤ (b : Int) by omega) (show (b : Int) < 8 by omega), cK0, pR0, rz245, if_true]
  unfold bB
  by_cases h1 : ck.testBit b = true
  · by_cases h2 : mark = rsg D s b
    · simp [h1, h2]
    · simp [h1, h2]
  · simp [h1]
theorem c285 (d : Nat) (H : RG D nb m) (hB : RB D nb m) : den (d + 7) 285 [(2, 129)] (Sg xs n D) = some ((0, sumN (fun e => sumN (fun b => bB (¬ D 137 e = b ∧ rmk D m e b = rsg D 0 b)) nb) m), Sg xs n D) := by
  have H' := H
  obtain ⟨hnb, h8, hm, h16, hE⟩ := H
  let g : Nat → Nat → Int := fun e b => bB (¬ D 137 e = b ∧ rmk D m e b = rsg D 0 b)
  have hg : ∀ e b, 0 ≤ g e b ∧ g e b ≤ 1 := by
    intro e b
    show 0 ≤ bB _ ∧ bB _ ≤ 1
    unfold bB
    split <;> omega
  have hin : ∀ e k, k ≤ nb → 0 ≤ sumN (g e) k ∧ sumN (g e) k ≤ k := by
    intro e k
    induction k with
    | zero => intro _; simp [sumN]
    | succ k ih =>
      intro hk
      have h1 := ih (by omega)
      have h2 := hg e k
      unfold sumN
      omega
  have hout : ∀ k, k ≤ m → 0 ≤ sumN (fun e => sumN (g e) nb) k ∧ sumN (fun e => sumN (g e) nb) k ≤ 8 * k := by
    intro k
    induction k with
    | zero => intro _; simp [sumN]
    | succ k ih =>
      intro hk
      have h1 := ih (by omega)
      have h2 := hin k nb (Nat.le_refl _)
      unfold sumN
      omega
  have inner : ∀ (e : Nat), e < m → ∀ (k : Nat) (a : Int), k ≤ nb → 0 ≤ a → a ≤ 8 * e → Rn (d + 6) 285 16 [some (2, 129), some (0, a + sumN (g e) (nb - k)), some (0, (e : Int)), some (0, ((nb - k : Nat) : Int))] [] (Sg xs n D) = Rn (d + 6) 285 4 [some (2, 129), some (0, a + sumN (g e) nb), some (0, ((e + 1 : Nat) : Int)), some (0, (nb : Int))] [] (Sg xs n D) := by
    intro e he k
    induction k with
    | zero =>
      intro a _ h0 h1
      rw [Nat.sub_zero, h285_16, hnb, if_pos (by omega), w1 (by omega)]
    | succ k ih =>
      intro a hk h0 h1
      have hb : nb - (k + 1) < nb := by omega
      have hs := hin e (nb - (k + 1)) (by omega)
      have hg1 := hg e (nb - (k + 1))
      have ek : nb - k = nb - (k + 1) + 1 := by omega
      have es : sumN (g e) (nb - k) = sumN (g e) (nb - (k + 1)) + g e (nb - (k + 1)) := by rw [ek]; rfl
      have hrec := ih a (by omega) h0 h1
      rw [h285_16, hnb, if_neg (by omega), if_pos (inb_t (by omega) (by omega))]
      simp only [c268 d e (nb - (k + 1)) H' hB he hb, cK0, pR0, h285_43, h285_50, h285_51, bB_if, w1 (show nb - (k + 1) < 2147483647 by omega)]
      rw [← hrec, es, ek]
      by_cases c1 : D 137 e = ((nb - (k + 1) : Nat) : Int)
      · have eg : g e (nb - (k + 1)) = 0 := by show bB _ = 0; simp [bB, c1]
        rw [if_pos c1, eg, w32_idP (by omega) (by omega)]
        simp
      · by_cases c2 : rmk D m e ((nb - (k + 1) : Nat) : Int) = rsg D 0 ((nb - (k + 1) : Nat) : Int)
        · have eg : g e (nb - (k + 1)) = 1 := by show bB _ = 1; simp [bB, c1, c2]
          rw [if_neg c1, if_pos c2, eg, w32_idP (by omega) (by omega), Int.add_assoc]
        · have eg : g e (nb - (k + 1)) = 0 := by show bB _ = 0; simp [bB, c2]
          rw [if_neg c1, if_neg c2, eg, w32_idP (by omega) (by omega)]
          simp
  have outer : ∀ (k : Nat) (o3 : Option Vv), k ≤ m → Rn (d + 6) 285 4 [some (2, 129), some (0, sumN (fun e => sumN (g e) nb) (m - k)), some (0, ((m - k : Nat) : Int)), o3] [] (Sg xs n D) = some ((0, sumN (fun e => sumN (g e) nb) m), Sg xs n D) := by
    intro k
    induction k with
    | zero =>
      intro o3 _
      rw [Nat.sub_zero, h285_4, hm, if_pos (by omega)]
    | succ k ih =>
      intro o3 hk
      have hs := hout (m - (k + 1)) (by omega)
      have i1 := inner (m - (k + 1)) (by omega) nb (sumN (fun e => sumN (g e) nb) (m - (k + 1))) (Nat.le_refl _) hs.1 (by omega)
      rw [Nat.sub_self, show sumN (g (m - (k + 1))) 0 = 0 from rfl, Int.add_zero] at i1
      have ek : m - (k + 1) + 1 = m - k := by omega
      have es : sumN (fun e => sumN (g e) nb) (m - (k + 1)) + sumN (g (m - (k + 1))) nb = sumN (fun e => sumN (g e) nb) (m - k) := by rw [← ek]; rfl
      rw [es, ek] at i1
      rw [h285_4, hm, if_neg (by omega)]
      exact i1.trans (ih (some (0, (nb : Int))) (by omega))
  rw [n285, h285_0]
  have := outer m none (Nat.le_refl _)
  rw [Nat.sub_self] at this
  exact this
end R1
