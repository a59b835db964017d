/-! Twins: calls that read alone -/
theorem if_s {p : Prop} [Decidable p] {t : Nat} {a b : Int} {s : Stt} : (if p then some ((t, a), s) else some ((t, b), s)) = some ((t, if p then a else b), s) := by
  split <;> rfl
theorem if_sn {p : Prop} [Decidable p] {t : Nat} {a b : Int} {s : Stt} : (if ¬ p then some ((t, a), s) else some ((t, b), s)) = some ((t, if p then b else a), s) := by
  by_cases h : p <;> simp [h]
def fndE (f : Int → Int) (v : Int) (m : Nat) : Nat → Int
  | 0 => -1
  | r + 1 => if f ((m - (r + 1) : Nat) : Int) = v then ((m - (r + 1) : Nat) : Int) else fndE f v m r
theorem fndE_ex {f g : Int → Int} {v : Int} {m : Nat} (h : ∀ k : Nat, k < m → f k = g k) : ∀ r, r ≤ m → fndE f v m r = fndE g v m r := by
  intro r
  induction r with
  | zero => intro _; rfl
  | succ r ih =>
    intro hr
    unfold fndE
    rw [h _ (by omega), ih (by omega)]
theorem fndE_b {f : Int → Int} {v : Int} {m : Nat} : ∀ r, r ≤ m → -1 ≤ fndE f v m r ∧ fndE f v m r < m := by
  intro r
  induction r with
  | zero => intro _; unfold fndE; omega
  | succ r ih =>
    intro hr
    have := ih (by omega)
    unfold fndE
    split <;> omega
def bcn (x : Nat) : Int := sumN (fun k => bB (x.testBit k = true)) 16
def bcJ (l0 : Int) : Int := i_and (w32 ((w32 ((i_and (w32 ((w32 ((i_and (w32 (l0 - (i_and (i_ushr l0 1) 1431655765))) 858993459) + (i_and (i_ushr (w32 (l0 - (i_and (i_ushr l0 1) 1431655765))) 2) 858993459))) + (i_ushr (w32 ((i_and (w32 (l0 - (i_and (i_ushr l0 1) 1431655765))) 858993459) + (i_and (i_ushr (w32 (l0 - (i_and (i_ushr l0 1) 1431655765))) 2) 858993459))) 4))) 252645135) + (i_ushr (i_and (w32 ((w32 ((i_and (w32 (l0 - (i_and (i_ushr l0 1) 1431655765))) 858993459) + (i_and (i_ushr (w32 (l0 - (i_and (i_ushr l0 1) 1431655765))) 2) 858993459))) + (i_ushr (w32 ((i_and (w32 (l0 - (i_and (i_ushr l0 1) 1431655765))) 858993459) + (i_and (i_ushr (w32 (l0 - (i_and (i_ushr l0 1) 1431655765))) 2) 858993459))) 4))) 252645135) 8))) + (i_ushr (w32 ((i_and (w32 ((w32 ((i_and (w32 (l0 - (i_and (i_ushr l0 1) 1431655765))) 858993459) + (i_and (i_ushr (w32 (l0 - (i_and (i_ushr l0 1) 1431655765))) 2) 858993459))) + (i_ushr (w32 ((i_and (w32 (l0 - (i_and (i_ushr l0 1) 1431655765))) 858993459) + (i_and (i_ushr (w32 (l0 - (i_and (i_ushr l0 1) 1431655765))) 2) 858993459))) 4))) 252645135) + (i_ushr (i_and (w32 ((w32 ((i_and (w32 (l0 - (i_and (i_ushr l0 1) 1431655765))) 858993459) + (i_and (i_ushr (w32 (l0 - (i_and (i_ushr l0 1) 1431655765))) 2) 858993459))) + (i_ushr (w32 ((i_and (w32 (l0 - (i_and (i_ushr l0 1) 1431655765))) 858993459) + (i_and (i_ushr (w32 (l0 - (i_and (i_ushr l0 1) 1431655765))) 2) 858993459))) 4))) 252645135) 8))) 16))) 63
theorem bcJ_all : (List.range 256).all (fun x => decide (bcJ (x : Int) = bcn x)) = true := by decide +kernel
theorem bcJ_eq {x : Nat} (h : x < 256) : bcJ (x : Int) = bcn x := by
  have := List.all_eq_true.mp bcJ_all x (List.mem_range.mpr h)
  exact of_decide_eq_true this
section T61
variable {xs : Int → Int} {n : Int × Int} {D F : Sto} {nb m : Nat}
theorem run0 (R : RunE D nb 46 0) : ∀ b : Nat, b < nb → (D 47 b = D 154 b ∧ 0 ≤ D 154 b ∧ D 154 b < 256) ∧ (D 48 b = D 155 b ∧ 0 ≤ D 155 b ∧ D 155 b ≤ 9999) := by
  intro b hb
  have := R.1 b hb
  rw [show (8 * 0 + (b : Int)) = b by omega, show (46 + 1 : Int) = 47 from rfl, show (46 + 2 : Int) = 48 from rfl] at this
  exact this
theorem p2_8 {nb : Nat} (h : nb ≤ 8) : (2 : Int) ^ nb ≤ 256 := by
  have : ∀ k : Fin 9, (2 : Int) ^ (k : Nat) ≤ 256 := by decide
  exact this ⟨nb, by omega⟩
theorem ck0 (R : RunE D nb 46 0) (h8 : nb ≤ 8) : ∃ c : Nat, D 46 2 = c ∧ D 153 0 = c ∧ c < 256 ∧ c < 2 ^ nb := by
  obtain ⟨e1, e2, e3⟩ := R.2.1
  have h := p2_8 h8
  refine ⟨(D 153 0).toNat, by omega, by omega, by omega, ?_⟩
  have : (((D 153 0).toNat : Nat) : Int) < ((2 ^ nb : Nat) : Int) := by
    rw [Int.toNat_of_nonneg e2, Int.natCast_pow]
    exact e3
  exact Int.ofNat_lt.mp this
theorem c64a (d : Nat) (v : Int) (h : D 30 0 = nb) (h8 : nb ≤ 8) : den (d + 1) 64 [(2, 26), (0, v)] (Sg xs n D) = some ((0, fndE (D 27) v nb nb), Sg xs n D) := by
  rw [n64a, h64a_0]
  have key : ∀ r, r ≤ nb → Rn d 64 2 [some (2, 26), some (0, v), some (0, ((nb - r : Nat) : Int))] [] (Sg xs n D) = some ((0, fndE (D 27) v nb r), Sg xs n D) := by
    intro r
    induction r with
    | zero =>
      intro _
      rw [h64a_2, h, if_pos (by omega)]
      rfl
    | succ r ih =>
      intro hr
      rw [h64a_2, h, if_neg (by omega), if_pos (inb_t (by omega) (by omega)), w1 (by omega)]
      unfold fndE
      by_cases e : D 27 ((nb - (r + 1) : Nat) : Int) = v
      · rw [if_neg (by simp [e]), if_pos e]
      · rw [if_pos e, if_neg e, show nb - (r + 1) + 1 = nb - r by omega]
        exact ih (by omega)
  have := key nb (Nat.le_refl nb)
  rw [Nat.sub_self] at this
  exact this
theorem c198 (d fr k : Nat) (v : Int) (h : fr + k ≤ 16) : den (d + 1) 198 [(2, 132), (0, (fr : Int)), (0, (k : Int)), (0, v)] (Sg xs n D) = some ((0, fndE (fun z => D 132 (fr + z)) v k k), Sg xs n D) := by
  rw [n198, h198_0]
  have key : ∀ r, r ≤ k → Rn d 198 3 [some (2, 132), some (0, (fr : Int)), some (0, (k : Int)), some (0, v), some (0, ((k - r : Nat) : Int))] [] (Sg xs n D) = some ((0, fndE (fun z => D 132 (fr + z)) v k r), Sg xs n D) := by
    intro r
    induction r with
    | zero =>
      intro _
      rw [h198_3, if_pos (by omega)]
      rfl
    | succ r ih =>
      intro hr
      rw [h198_3, if_neg (by omega), w32_idP (z := (fr : Int) + ((k - (r + 1) : Nat) : Int)) (by omega) (by omega), if_pos (inb_t (by omega) (by omega)), w1 (by omega)]
      unfold fndE
      by_cases e : D 132 ((fr : Int) + ((k - (r + 1) : Nat) : Int)) = v
      · rw [if_neg (by simp [e]), if_pos e]
      · rw [if_pos e, if_neg e, show k - (r + 1) + 1 = k - r by omega]
        exact ih (by omega)
  have := key k (Nat.le_refl k)
  rw [Nat.sub_self] at this
  exact this
theorem bB_01 (p : Prop) [Decidable p] : 0 ≤ bB p ∧ bB p ≤ 1 := by
  unfold bB
  split <;> omega
theorem sumB_b (p : Nat → Prop) [∀ k, Decidable (p k)] : ∀ k : Nat, 0 ≤ sumN (fun j => bB (p j)) k ∧ sumN (fun j => bB (p j)) k ≤ k := by
  intro k
  induction k with
  | zero => simp [sumN]
  | succ k ih =>
    have := bB_01 (p k)
    unfold sumN
    omega
theorem c232 (d x : Nat) (hx : x < 65536) : den (d + 1) 232 [(0, (x : Int))] (Sg xs n D) = some ((0, bcn x), Sg xs n D) := by
  rw [n232, h232_0]
  refine (Rn_iter (fun k => [some (0, (x : Int)), some (0, sumN (fun k => bB (x.testBit k = true)) k), some (0, (k : Int))]) (fun _ => Sg xs n D) 16 (fun k hk => ?_)).trans ?_
  · show Rn d 232 4 [some (0, (x : Int)), some (0, sumN (fun k => bB (x.testBit k = true)) k), some (0, (k : Int))] [] (Sg xs n D) = Rn d 232 4 [some (0, (x : Int)), some (0, sumN (fun k => bB (x.testBit k = true)) (k + 1)), some (0, ((k + 1 : Nat) : Int))] [] (Sg xs n D)
    have h1 := sumB_b (fun k => x.testBit k = true) k
    have h2 := bB_01 (x.testBit k = true)
    rw [h232_4, if_neg (by omega), tb_val (by omega) (by omega), w1 (by omega), w32_idP (by omega) (by omega)]
    rfl
  · show Rn d 232 4 [some (0, (x : Int)), some (0, sumN (fun k => bB (x.testBit k = true)) 16), some (0, ((16 : Nat) : Int))] [] (Sg xs n D) = _
    rw [h232_4, if_pos (by decide)]
    rfl
theorem c318 (d x : Nat) (hx : x < 256) : den (d + 1) 318 [(0, (x : Int))] (Sg xs n D) = some ((0, bcn x), Sg xs n D) := by
  rw [n318, h318_0, ← bcJ_eq hx]
  rfl
theorem ts_fault (R : Rel D) (d : Nat) (w : Int) : tws xs n (d + 40) 0 139 220 [(0, w)] D := by
  have R0 := R
  obtain ⟨nb, m, K, G, P, L, U, H, ⟨T, t1, t2, t3, t4⟩, Z⟩ := R
  refine tws_sim R0 (D1 := D) (D2 := up D 129 0 0) (a := if w = 0 then D 129 23 else if w = 1 then D 129 24 else -1) ?_ ?_ sim_0
  · rw [n139, h139_0, t3, t4, if_s, if_s]
    (repeat' split) <;> first | rfl | (exfalso; omega)
  · rw [n220, h220_0]
    simp only [h220_29, if_sn]
theorem ts_named (R : Rel D) (d : Nat) (v : Int) : tws xs n (d + 40) 0 140 221 [(0, v)] D := by
  have R0 := R
  obtain ⟨nb, m, K, G, P, L, U, H, T, Z⟩ := R
  obtain ⟨q, q', r, K2⟩ := K
  have hc := r.1.1.1
  have hr := r.1.2.1.1
  have h8 := r.1.1.2.1
  refine tws_sim R0 (D1 := D) (D2 := up D 129 0 0) (a := fndE (D 27) v nb nb) ?_ ?_ sim_0
  · rw [n140, h140_0, c64a (d + 38) v hc h8, cK0, pR0, h140_8]
  · have e := c198 (xs := xs) (n := n) (D := up D 129 0 0) (d + 38) 0 nb v (by omega)
    rw [n221, h221_0, hr]
    simp only [Int.natCast_zero] at e
    rw [e, cK0, pR0, h221_20]
    have e2 : fndE (D 27) v nb nb = fndE (fun z => up D 129 0 0 132 (0 + z)) v nb nb := fndE_ex (fun k hk => by
      show D 27 k = up D 129 0 0 132 (0 + k)
      rw [up_ne (by decide), Int.zero_add]
      exact (P.1 k hk).1) nb (Nat.le_refl nb)
    rw [e2]
theorem RG_0 {v : Int} (H : RG D nb m) : RG (up D 129 0 v) nb m := mrk_RG (mrk_v (by decide)) H
theorem RB_0 {v : Int} (H : RB D nb m) : RB (up D 129 0 v) nb m := mrk_RB (mrk_v (by decide)) H
/-- what a twin needs of the relation -/
theorem RelK_G (K : RelK D nb m) : GE D D nb m ∧ BE (D 36) D nb m ∧ SE (D 47) D nb 0 ∧ D 129 46 = -1 ∧ D 129 45 = 0 ∧ RB D nb m := by
  obtain ⟨q, q', r, K2⟩ := K
  exact ⟨r.1, r.2.1, r.2.2.1, r.2.2.2.1, r.2.2.2.2.2.2, RelN_RB r⟩
theorem raj_0 {v : Int} (s e : Int) : raj (up D 129 0 v) m s e = raj D m s e := by
  have hM : mrk (up D 129 0 v) D := mrk_v (by decide)
  unfold raj rsg
  rw [hM.2.2.1, hM.2.2.2.1, up_ni (by decide), up_ni (by decide), mrk_bs hM, hM.2.2.2.2.1]
theorem rdf_0 {v : Int} (s b : Int) : rdf (up D 129 0 v) m s b = rdf D m s b := by
  have hM : mrk (up D 129 0 v) D := mrk_v (by decide)
  unfold rdf rsg
  rw [up_ni (by decide), up_ni (by decide), mrk_bs hM, hM.2.2.2.2.1]
theorem rmk_0 {v : Int} (e b : Int) : rmk (up D 129 0 v) m e b = rmk D m e b := by
  have hM : mrk (up D 129 0 v) D := mrk_v (by decide)
  unfold rmk rmb
  rw [raj_0, rdf_0, hM.2.2.1, hM.2.2.2.1]
  unfold rsg
  rw [up_ni (by decide), up_ni (by decide), hM.2.2.2.2.1]
theorem ts_edge (R : Rel D) (d : Nat) (e w : Int) : tws xs n (d + 40) 0 142 255 [(0, e), (0, w)] D := by
  have R0 := R
  obtain ⟨nb, m, K, X⟩ := R
  obtain ⟨⟨g1, g2, g3, g4⟩, hB, hS, h46, h45, hRB⟩ := RelK_G K
  have g1' := g1
  obtain ⟨hnb, h8, hm, h16, hE⟩ := g1
  have hM : mrk (up D 129 0 0) D := mrk_v (by decide)
  refine tws_sim R0 (D1 := D) (D2 := up D 129 0 0) (a := if 0 ≤ e ∧ e < (m : Int) then (if w = 0 then D 136 e else if w = 1 then D 137 e else if w = 2 then raj D m 0 e else -1) else -1) ?_ ?_ sim_0
  · rw [n142, h142_0, c7, cK0, pR0, h142_13, hm]
    by_cases h : 0 ≤ e ∧ e < (m : Int)
    · have he := hE e.toNat (by omega)
      have hf := g3 e.toNat (by omega)
      have ha := aj_eq ⟨g1', g2, g3, g4⟩ hB hS (e := e.toNat) (by omega)
      rw [Int.toNat_of_nonneg h.1] at he hf ha
      rw [if_pos h, if_pos (by simp [bB, h]), if_pos (inb_t h.1 (by omega)), if_pos (inb_t h.1 (by omega)), c12a (d + 37) e (by omega) h.1 (by omega) he.2.1 (by omega) he.1.1 (by omega), cK0, pR0, h142_74, hnb, ha, hf.1, hf.2, if_s, if_s, if_s]
    · rw [if_neg h, if_neg (by simp [bB, h])]
  · rw [n255, h255_0, c231, cK0, pR0, h255_10, hM.1, g2.2.2.1]
    by_cases h : 0 ≤ e ∧ e < (m : Int)
    · have e1 := c240 (xs := xs) (n := n) (d + 36) e.toNat 0 (RG_0 (v := 0) g2) (RB_0 hRB) (by omega) (by omega) (by omega)
      rw [Int.toNat_of_nonneg h.1] at e1
      rw [if_pos h, if_pos (by simp [bB, h]), if_pos (inb_t h.1 (by omega)), if_pos (inb_t h.1 (by omega)), e1, cK0, pR0, h255_53, raj_0, hM.2.2.1, hM.2.2.2.1]
      simp only [h255_57, if_sn]
    · rw [if_neg h, if_neg (by simp [bB, h])]
theorem ts_base (R : Rel D) (d : Nat) (b : Int) : tws xs n (d + 40) 0 143 256 [(0, b)] D := by
  have R0 := R
  obtain ⟨nb, m, K, X⟩ := R
  obtain ⟨⟨g1, g2, g3, g4⟩, hB, hS, h46, h45, hRB⟩ := RelK_G K
  have h8 := g1.2.1
  have hM : mrk (up D 129 0 0) D := mrk_v (by decide)
  refine tws_sim R0 (D1 := D) (D2 := up D 129 0 0) (a := if 0 ≤ b ∧ b < (nb : Int) then (if rbs D m b = -1 then -2 else rbs D m b) else -1) ?_ ?_ sim_0
  · rw [n143, h143_0, c6a, cK0, pR0, h143_11, g1.1]
    by_cases h : 0 ≤ b ∧ b < (nb : Int)
    · have hb := hB b.toNat (by omega)
      rw [Int.toNat_of_nonneg h.1] at hb
      rw [if_pos h, if_pos (by simp [bB, h]), if_pos (inb_t h.1 (by omega)), hb.1]
      simp only [h143_39]
      by_cases h2 : rbs D m b = -1
      · rw [if_pos h2, if_neg (by omega)]
      · rw [if_neg h2, if_pos (by omega)]
    · rw [if_neg h, if_neg (by simp [bB, h])]
  · rw [n256, h256_0, c230, cK0, pR0, h256_10, hM.1, g2.1]
    by_cases h : 0 ≤ b ∧ b < (nb : Int)
    · have e1 := c238 (xs := xs) (n := n) (d + 37) b.toNat (RG_0 (v := 0) g2) (RB_0 hRB) (by omega)
      rw [Int.toNat_of_nonneg h.1] at e1
      rw [if_pos h, if_pos (by simp [bB, h]), e1, cK0, pR0, h256_20, mrk_bs hM]
      simp only [h256_32, if_sn]
    · rw [if_neg h, if_neg (by simp [bB, h])]
theorem ts_diff (R : Rel D) (d : Nat) (b : Int) : tws xs n (d + 40) 0 144 257 [(0, b)] D := by
  have R0 := R
  obtain ⟨nb, m, K, X⟩ := R
  obtain ⟨⟨g1, g2, g3, g4⟩, hB, hS, h46, h45, hRB⟩ := RelK_G K
  have h8 := g1.2.1
  have hM : mrk (up D 129 0 0) D := mrk_v (by decide)
  refine tws_sim R0 (D1 := D) (D2 := up D 129 0 0) (a := if 0 ≤ b ∧ b < (nb : Int) then rdf D m 0 b else -1) ?_ ?_ sim_0
  · rw [n144, h144_0, c6a, cK0, pR0, h144_11, g1.1]
    by_cases h : 0 ≤ b ∧ b < (nb : Int)
    · have hb := df_eq hB hS (b := b.toNat) (by omega)
      rw [Int.toNat_of_nonneg h.1] at hb
      rw [if_pos h, if_pos (by simp [bB, h]), c11a (d + 37) b (by rw [g1.1]; omega) h.1 (by omega), cK0, pR0, h144_44, g1.1, hb]
    · rw [if_neg h, if_neg (by simp [bB, h])]
  · rw [n257, h257_0, c230, cK0, pR0, h257_10, hM.1, g2.1]
    by_cases h : 0 ≤ b ∧ b < (nb : Int)
    · have e1 := c239 (xs := xs) (n := n) (d + 36) b.toNat 0 (RG_0 (v := 0) g2) (RB_0 hRB) (by omega) (by omega) (by omega)
      rw [Int.toNat_of_nonneg h.1] at e1
      rw [if_pos h, if_neg (by simp [bB, h]), e1, cK0, pR0, h257_19, rdf_0, h257_23]
    · rw [if_neg h, if_pos (by simp [bB, h]), h257_23]
end T61
