/-! Contracts: signs that are left -/
def stK (D : Sto) (a i : Int) : Nat → Sto
  | 0 => D
  | k + 1 => up D a i k
theorem stK_up {D : Sto} {a i v : Int} : ∀ k, up (stK D a i k) a i v = up D a i v := by
  intro k
  cases k with
  | zero => rfl
  | succ k => exact up_up
/-- the reference's notes keep their bounds -/
def RN (D : Sto) (q nb m : Nat) : Prop := q ≤ 24 ∧ ∀ k : Nat, k < q → (-1 ≤ D 172 k ∧ D 172 k < 24) ∧ (D 172 k = -1 → (0 ≤ D 169 k ∧ D 169 k < m) ∧ (0 ≤ D 170 k ∧ D 170 k < nb))
def rnP (D : Sto) (m : Nat) (k : Nat) : Bool := !(decide (D 173 k = 0) && decide (D 172 k = -1)) || decide (bB (rmk D m (D 169 k) (D 170 k) = rsg D 0 (D 170 k)) = D 171 k)
def zrK (D : Sto) : Nat → Sto
  | 0 => D
  | k + 1 => up (zrK D k) 173 k 0
def stR : Sto → Nat → Sto
  | E, 0 => E
  | E, k + 1 => stR (if E 173 k = 0 ∧ ¬ E 172 k = -1 then up E 173 (E 172 k) 1 else E) k
def agN (F D : Sto) : Prop := ∀ c j : Int, ¬ c = 173 → ¬ (c = 129 ∧ (j = 46 ∨ j = 47)) → F c j = D c j
theorem agN_u {F D : Sto} {i v : Int} (h : agN F D) : agN (up F 173 i v) D := by
  intro c j h1 h2
  rw [up_ne h1]
  exact h c j h1 h2
theorem agN_v {F D : Sto} {i v : Int} (hi : i = 46 ∨ i = 47) (h : agN F D) : agN (up F 129 i v) D := by
  intro c j h1 h2
  by_cases e : c = 129
  · rw [up_ni (fun q => h2 ⟨e, by rw [q]; exact hi⟩)]
    exact h c j h1 h2
  · rw [up_ne e]
    exact h c j h1 h2
theorem agN_z {D : Sto} : ∀ k, agN (zrK D k) D := by
  intro k
  induction k with
  | zero => intro c j _ _; rfl
  | succ k ih => exact agN_u ih
theorem agN_s {D : Sto} : ∀ k F, agN F D → agN (stR F k) D := by
  intro k
  induction k with
  | zero => intro F h; exact h
  | succ k ih =>
    intro F h
    unfold stR
    apply ih
    split
    · exact agN_u h
    · exact h
theorem agN_f {F D : Sto} (h : agN F D) (c : Int) (h1 : ¬ c = 173) (h2 : ¬ c = 129) : F c = D c := by
  funext j
  exact h c j h1 (fun q => h2 q.1)
theorem agN_RG {F D : Sto} {nb m : Nat} (h : agN F D) (H : RG D nb m) : RG F nb m := by
  unfold RG
  rw [agN_f h 131 (by decide) (by decide), agN_f h 136 (by decide) (by decide), agN_f h 137 (by decide) (by decide)]
  exact H
theorem agN_bs {F D : Sto} {m : Nat} (h : agN F D) (b : Int) : rbs F m b = rbs D m b := by
  unfold rbs
  rw [h 129 45 (by decide) (by decide), agN_f h 135 (by decide) (by decide), agN_f h 136 (by decide) (by decide), agN_f h 137 (by decide) (by decide), agN_f h 156 (by decide) (by decide)]
theorem agN_RB {F D : Sto} {nb m : Nat} (h : agN F D) (H : RB D nb m) : RB F nb m := by
  intro b hb
  rw [agN_bs h, agN_f h 135 (by decide) (by decide), agN_f h 137 (by decide) (by decide)]
  exact H b hb
theorem agN_RN {F D : Sto} {q nb m : Nat} (h : agN F D) (H : RN D q nb m) : RN F q nb m := by
  unfold RN
  rw [agN_f h 169 (by decide) (by decide), agN_f h 170 (by decide) (by decide), agN_f h 172 (by decide) (by decide)]
  exact H
theorem agN_k {F D : Sto} (h : agN F D) : rkC F = rkC D := by
  unfold rkC
  rw [h 129 64 (by decide) (by decide), h 129 65 (by decide) (by decide)]
section N2
variable {xs : Int → Int} {n : Int × Int} {D : Sto} {nb m q q' : Nat}
theorem EG_up {b v : Int} (H : EG D nb m) : EG (up D 55 b v) nb m := by
  unfold EG
  simp only [up_ne (D := D) (a := 55) (i := b) (v := v) (c := 30) (by decide), up_ne (D := D) (a := 55) (i := b) (v := v) (c := 31) (by decide), up_ne (D := D) (a := 55) (i := b) (v := v) (c := 32) (by decide)]
  exact H
theorem NT_up {b v : Int} (H : NT D q nb m) : NT (up D 55 b v) q nb m := by
  unfold NT
  simp only [up_ne (D := D) (a := 55) (i := b) (v := v) (c := 59) (by decide), up_ne (D := D) (a := 55) (i := b) (v := v) (c := 60) (by decide), up_ne (D := D) (a := 55) (i := b) (v := v) (c := 62) (by decide)]
  exact H
theorem c57 (d b : Nat) (hb : b < nb) (hk : D 58 0 = q) (hk' : knC D = q') (H : EG D nb m) (HT : NT D q nb m) (HT' : NT D q' nb m) : den (d + 6) 57 [(2, 58), (0, (b : Int))] (Sg xs n D) = some ((0, ((bitP (fun v => anF (ntP (up D 55 b v) (stdI (D 62) (2 ^ q' - 1) q')) 0 q) 16 : Nat) : Int)), Sg xs n D) := by
  have h8 := H.2.1
  have hq := HT'.1
  let set : Nat := stdI (D 62) (2 ^ q' - 1) q'
  let p : Nat → Bool := fun v => anF (ntP (up D 55 b v) set) 0 q
  have hset : set < 2147483648 := Nat.lt_of_lt_of_le (stdI_lt (D 62) (q := q') q' _ (Nat.sub_lt (Nat.pow_pos (by decide)) (by decide))) (Nat.le_trans (Nat.pow_le_pow_right (by decide) hq) (by decide))
  rw [n57, h57_0, c56 (d + 3) hk' HT', cK0, pR0, h57_4, if_pos (inb_t (by omega) (by omega))]
  refine (Rn_iter (fun k => [some (2, 58), some (0, (b : Int)), some (0, ((set : Nat) : Int)), some (0, D 55 b), some (0, ((bitP p k : Nat) : Int)), some (0, (k : Int))]) (fun k => Sg xs n (stK D 55 b k)) 16 (fun k hk16 => ?_)).trans ?_
  · show Rn (d + 5) 57 21 [some (2, 58), some (0, (b : Int)), some (0, ((set : Nat) : Int)), some (0, D 55 b), some (0, ((bitP p k : Nat) : Int)), some (0, (k : Int))] [] (Sg xs n (stK D 55 b k)) = Rn (d + 5) 57 21 [some (2, 58), some (0, (b : Int)), some (0, ((set : Nat) : Int)), some (0, D 55 b), some (0, ((bitP p (k + 1) : Nat) : Int)), some (0, ((k + 1 : Nat) : Int))] [] (Sg xs n (up D 55 b k))
    have hp := bitP_lt p k
    have hp2 : bitP p k < 65536 := Nat.lt_of_lt_of_le hp (Nat.pow_le_pow_right (by decide) (show k ≤ 16 by omega))
    have hp3 : 2 ^ k < 65536 := Nat.lt_of_lt_of_le (Nat.pow_lt_pow_right (by decide) (show k < 16 by omega)) (by decide)
    rw [h57_21, if_neg (by omega), if_pos (inb_t (by omega) (by omega)), stK_up, c58 d set hset (show (up D 55 b k) 58 0 = q by rw [up_ne (by decide)]; exact hk) (EG_up H) (NT_up HT), cK0, pR0, h57_44, bB_if]
    simp only [c180 (d + 4) k (show k < 31 by omega), cK0, pR0, h57_54, h57_57, w1 (show k < 2147483647 by omega), i_or_nat (show bitP p k < 2147483648 by omega) (show 2 ^ k < 2147483648 by omega)]
    show (if p k = true then _ else _) = _
    by_cases h : p k = true
    · rw [if_pos h, show bitP p (k + 1) = bitP p k ||| 2 ^ k by simp [bitP, h]]
    · rw [if_neg h, show bitP p (k + 1) = bitP p k by simp [bitP, h]]
  · show Rn (d + 5) 57 21 [some (2, 58), some (0, (b : Int)), some (0, ((set : Nat) : Int)), some (0, D 55 b), some (0, ((bitP p 16 : Nat) : Int)), some (0, ((16 : Nat) : Int))] [] (Sg xs n (stK D 55 b 16)) = _
    rw [h57_21, if_pos (by decide), if_pos (inb_t (by omega) (by omega)), stK_up, up_id]
theorem k307 (d : Nat) (hk : rkC D = q) (H : RG D nb m) (hB : RB D nb m) (HT : RN D q nb m) : ∀ r i, i + r = q → Rn (d + 6) 307 2 [some (2, 129), some (0, ((i : Nat) : Int))] [] (Sg xs n D) = some ((0, bB (anF (rnP D m) i r = true)), Sg xs n D) := by
  obtain ⟨hq, hE⟩ := HT
  intro r
  induction r with
  | zero =>
    intro i hi
    rw [h307_2, c306 (d + 5), cK0, pR0, h307_7, hk, if_pos (by omega)]
    rfl
  | succ r ih =>
    intro i hi
    have hn := hE i (by omega)
    have hi2 := ih (i + 1) (by omega)
    rw [show anF (rnP D m) i (r + 1) = (rnP D m i && anF (rnP D m) (i + 1) r) from rfl]
    by_cases h2 : D 172 i = -1
    rotate_left
    · rw [h307_2, c306 (d + 5), cK0, pR0, h307_7, hk, if_neg (by omega), if_pos (inb_t (by omega) (by omega)), if_pos (inb_t (by omega) (by omega)), if_neg h2, h307_59, w1 (show i < 2147483647 by omega), hi2]
      have hb : rnP D m i = true := by simp [rnP, h2]
      rw [hb, Bool.true_and]
      split <;> rfl
    obtain ⟨⟨e1, e2⟩, ⟨e3, e4⟩⟩ := hn.2 h2
    have e := c268 (xs := xs) (n := n) (D := D) d (D 169 i).toNat (D 170 i).toNat H hB (by omega) (by omega)
    rw [Int.toNat_of_nonneg e1, Int.toNat_of_nonneg e3] at e
    rw [h307_2, c306 (d + 5), cK0, pR0, h307_7, hk, if_neg (by omega)]
    simp only [inb_t (show (0 : Int) ≤ (i : Int) by omega) (show (i : Int) < 24 by omega), if_true, e, cK0, pR0, h307_48, h307_59, w1 (show i < 2147483647 by omega), hi2]
    by_cases h1 : D 173 i = 0
    · by_cases h3 : bB (rmk D m (D 169 i) (D 170 i) = rsg D 0 (D 170 i)) = D 171 i
      · simp [rnP, h1, h2, h3]
      · simp [rnP, h1, h2, h3, bB_F]
    · simp [rnP, h1]
theorem c307 (d : Nat) (hk : rkC D = q) (H : RG D nb m) (hB : RB D nb m) (HT : RN D q nb m) : den (d + 7) 307 [(2, 129)] (Sg xs n D) = some ((0, bB (anF (rnP D m) 0 q = true)), Sg xs n D) := by
  rw [n307, h307_0]
  exact k307 d hk H hB HT q 0 (by omega)
theorem k308 (d : Nat) (b : Int) (hq : q ≤ 24) : ∀ k, k ≤ q → ∀ E : Sto, (∀ j : Nat, j < q → -1 ≤ E 172 j ∧ E 172 j < 24) → Rn (d + 7) 308 30 [some (2, 129), some (0, b), some (0, (k : Int) - 1), none] [] (Sg xs n E) = Rn (d + 7) 308 80 [some (2, 129), some (0, b), some (0, 0), some (0, 0)] [] (Sg xs n (up (stR E k) 129 46 b)) := by
  intro k
  induction k with
  | zero =>
    intro _ E _
    rw [h308_30, if_pos (by omega)]
    rfl
  | succ k ih =>
    intro hk E hE
    obtain ⟨e1, e2⟩ := hE k (by omega)
    rw [show ((k + 1 : Nat) : Int) - 1 = (k : Int) by omega, h308_30, if_neg (by omega), if_pos (inb_t (by omega) (by omega)), if_pos (inb_t (by omega) (by omega)), if_pos (inb_t (by omega) (by omega))]
    rw [show stR E (k + 1) = stR (if E 173 k = 0 ∧ ¬ E 172 k = -1 then up E 173 (E 172 k) 1 else E) k from rfl]
    by_cases h1 : E 173 k = 0
    · by_cases h2 : E 172 k = -1
      · rw [if_neg (by simp [h1]), if_pos h2, if_neg (fun h => h.2 h2), h308_65, w32_idP (by omega) (by omega)]
        exact ih (by omega) E hE
      · rw [if_neg (by simp [h1]), if_neg h2, inb_t (show 0 ≤ E 172 k by omega) e2, if_pos (show (true && bit01 1) = true from rfl), if_pos ⟨h1, h2⟩, h308_65, w32_idP (by omega) (by omega)]
        refine ih (by omega) _ (fun j hj => ?_)
        rw [up_ne (by decide)]
        exact hE j hj
    · rw [if_pos h1, if_neg (fun h => h1 h.1), h308_65, w32_idP (by omega) (by omega)]
      exact ih (by omega) E hE
def rE1 (D : Sto) (q : Nat) (b : Int) : Sto := up (stR (zrK D q) q) 129 46 b
theorem k308b (d : Nat) (E : Sto) (hk : rkC E = q) (H : RG E nb m) (hB : RB E nb m) (HT : RN E q nb m) : ∀ r k o, k + r = 16 → Rn (d + 7) 308 80 [some (2, 129), o, some (0, ((bitP (fun v => anF (rnP (up E 129 47 v) m) 0 q) k : Nat) : Int)), some (0, ((k : Nat) : Int))] [] (Sg xs n (stK E 129 47 k)) = some ((0, ((bitP (fun v => anF (rnP (up E 129 47 v) m) 0 q) 16 : Nat) : Int)), Sg xs n (up (up E 129 47 15) 129 46 (-1))) := by
  intro r
  induction r with
  | zero =>
    intro k o hk
    obtain rfl : k = 16 := by omega
    rw [h308_80, if_pos (by decide)]
    rfl
  | succ r ih =>
    intro k o hkr
    have hi := ih (k + 1) none (by omega)
    have hv : ∀ v : Int, agN (up E 129 47 v) E := fun v => agN_v (Or.inr rfl) (fun c j _ _ => rfl)
    generalize hp : (fun v : Nat => anF (rnP (up E 129 47 v) m) 0 q) = p at hi ⊢
    have hp1 : p k = anF (rnP (up E 129 47 k) m) 0 q := by rw [← hp]
    have hp2 : bitP p k < 65536 := Nat.lt_of_lt_of_le (bitP_lt p k) (Nat.pow_le_pow_right (by decide) (show k ≤ 16 by omega))
    have hp3 : 2 ^ k < 65536 := Nat.lt_of_lt_of_le (Nat.pow_lt_pow_right (by decide) (show k < 16 by omega)) (by decide)
    have ez : i_or ((bitP p k : Nat) : Int) 0 = ((bitP p k : Nat) : Int) := by
      have := i_or_nat (x := bitP p k) (y := 0) (by omega) (by decide)
      rw [Nat.or_zero] at this
      exact this
    have e1 := c307 (xs := xs) (n := n) (D := up E 129 47 k) d (by rw [agN_k (hv k)]; exact hk) (agN_RG (hv k) H) (agN_RB (hv k) hB) (agN_RN (hv k) HT)
    rw [h308_80, if_neg (by omega), stK_up, e1, cK0, pR0, h308_96, bB_if, ← hp1]
    simp only [h308_106, w1 (show k < 2147483647 by omega), i_shl_bit (show k < 31 by omega), i_or_nat (show bitP p k < 2147483648 by omega) (show 2 ^ k < 2147483648 by omega), ez]
    by_cases h : p k = true
    · rw [if_pos h]
      rw [show bitP p (k + 1) = bitP p k ||| 2 ^ k by simp [bitP, h]] at hi
      exact hi
    · rw [if_neg h]
      rw [show bitP p (k + 1) = bitP p k by simp [bitP, h]] at hi
      exact hi
theorem c308 (d b : Nat) (hk : rkC D = q) (H : RG D nb m) (hB : RB D nb m) (HT : RN D q nb m) : den (d + 8) 308 [(2, 129), (0, (b : Int))] (Sg xs n D) = some ((0, ((bitP (fun v => anF (rnP (up (rE1 D q b) 129 47 v) m) 0 q) 16 : Nat) : Int)), Sg xs n (up (up (rE1 D q b) 129 47 15) 129 46 (-1))) := by
  have hq := HT.1
  rw [n308, h308_0]
  have s1 := Rn_iter (d := d + 7) (m := 308) (pc := 2) (fun k => [some (2, 129), some (0, (b : Int)), some (0, (k : Int)), none]) (fun k => Sg xs n (zrK D k)) q (fun k hk2 => by
    show Rn (d + 7) 308 2 [some (2, 129), some (0, (b : Int)), some (0, (k : Int)), none] [] (Sg xs n (zrK D k)) = Rn (d + 7) 308 2 [some (2, 129), some (0, (b : Int)), some (0, ((k + 1 : Nat) : Int)), none] [] (Sg xs n (up (zrK D k) 173 k 0))
    rw [h308_2, c306 (d + 6), cK0, pR0, h308_7, agN_k (agN_z k), hk, if_neg (by omega), inb_t (show (0 : Int) ≤ (k : Int) by omega) (show (k : Int) < 24 by omega), if_pos (show (true && bit01 0) = true from rfl), w1 (show k < 2147483647 by omega)])
  refine s1.trans ?_
  show Rn (d + 7) 308 2 [some (2, 129), some (0, (b : Int)), some (0, (q : Int)), none] [] (Sg xs n (zrK D q)) = _
  rw [h308_2, c306 (d + 6), cK0, pR0, h308_7, agN_k (agN_z q), hk, if_pos (by omega), c306 (d + 6), cK0, pR0, h308_27, agN_k (agN_z q), hk, w32_idP (by omega) (by omega)]
  rw [k308 d (b : Int) hq q (Nat.le_refl q) _ (fun j hj => by rw [agN_f (agN_z q) 172 (by decide) (by decide)]; exact (HT.2 j hj).1)]
  have hA : agN (rE1 D q b) D := agN_v (Or.inl rfl) (agN_s q _ (agN_z q))
  exact k308b d (rE1 D q b) (by rw [agN_k hA]; exact hk) (agN_RG hA H) (agN_RB hA hB) (agN_RN hA HT) 16 0 _ (by omega)
end N2
