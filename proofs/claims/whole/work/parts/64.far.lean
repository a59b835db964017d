/-! How far blocks are: the reference's rows -/
def FI (F T : Int → Int) (m : Nat) (fr but : Int) (f : Int → Int) (n : Nat) : Prop := ∀ c : Nat, c < 8 → (f c = -1 ∨ (0 ≤ f c ∧ f c ≤ n)) ∧ ∀ k : Nat, k ≤ n → ((0 ≤ f c ∧ f c ≤ k) ↔ lvF F T m fr but k c)
def MI (F T : Int → Int) (but : Int) (n : Int) (f g : Int → Int) (j : Nat) : Prop := ∀ c : Nat, c < 8 → (¬ f c = -1 → g c = f c) ∧ (f c = -1 → (g c = n + 1 ∧ ¬ (c : Int) = but ∧ ∃ e : Nat, e < j ∧ f (F e) = n ∧ T e = c) ∨ (g c = -1 ∧ ∀ e : Nat, e < j → f (F e) = n → T e = c → (c : Int) = but))
section FR
variable {F T f g : Int → Int} {m nb j n : Nat} {fr but : Int}
theorem MI_0 : MI F T but n f f 0 := fun c _ => ⟨fun _ => rfl, fun h => Or.inr ⟨h, fun e he => by omega⟩⟩
theorem MI_eq (M : MI F T but n f g j) {c : Int} (h0 : 0 ≤ c) (h1 : c < 8) : g c = n ↔ f c = n := by
  have := M c.toNat (by omega)
  rw [Int.toNat_of_nonneg h0] at this
  by_cases e : f c = -1
  · obtain w | w := this.2 e <;> omega
  · rw [this.1 e]
theorem MI_no (M : MI F T but n f g j) (hF : 0 ≤ F j ∧ F j < 8) (h : ¬ (g (F j) = n ∧ ¬ T j = but ∧ g (T j) = -1)) : MI F T but n f g (j + 1) := by
  intro c hc
  obtain ⟨a1, a2⟩ := M c hc
  refine ⟨a1, fun e => ?_⟩
  obtain ⟨b1, b2, k, b3, b4⟩ | ⟨b1, b2⟩ := a2 e
  · exact Or.inl ⟨b1, b2, k, by omega, b4⟩
  · refine Or.inr ⟨b1, fun k hk h1 h2 => ?_⟩
    by_cases q : k = j
    · subst q
      apply Classical.byContradiction
      intro w
      exact h ⟨(MI_eq M hF.1 hF.2).mpr h1, by rw [h2]; exact w, by rw [h2]; exact b1⟩
    · exact b2 k (by omega) h1 h2
theorem MI_up (M : MI F T but n f g j) (hF : 0 ≤ F j ∧ F j < 8) (h : g (F j) = n ∧ ¬ T j = but ∧ g (T j) = -1) : MI F T but n f (fun i => if i = T j then (n : Int) + 1 else g i) (j + 1) := by
  intro c hc
  obtain ⟨a1, a2⟩ := M c hc
  refine ⟨fun e => ?_, fun e => ?_⟩
  · have := a1 e
    show (if (c : Int) = T j then (n : Int) + 1 else g c) = f c
    rw [if_neg (fun q => e (by rw [← this, q]; exact h.2.2)), this]
  · show ((if (c : Int) = T j then (n : Int) + 1 else g c) = n + 1 ∧ _) ∨ ((if (c : Int) = T j then (n : Int) + 1 else g c) = -1 ∧ _)
    by_cases q : (c : Int) = T j
    · rw [if_pos q]
      exact Or.inl ⟨rfl, by rw [q]; exact h.2.1, j, by omega, (MI_eq M hF.1 hF.2).mp h.1, q.symm⟩
    · rw [if_neg q]
      obtain ⟨b1, b2, k, b3, b4⟩ | ⟨b1, b2⟩ := a2 e
      · exact Or.inl ⟨b1, b2, k, by omega, b4⟩
      · refine Or.inr ⟨b1, fun k hk h1 h2 => ?_⟩
        by_cases w : k = j
        · subst w; exact absurd h2.symm q
        · exact b2 k (by omega) h1 h2
theorem FI_s (hE : ∀ k : Nat, k < m → (0 ≤ F k ∧ F k < 8) ∧ 0 ≤ T k ∧ T k < 8) (I : FI F T m fr but f n) (M : MI F T but n f g m) : FI F T m fr but g (n + 1) := by
  intro c hc
  obtain ⟨i1, i2⟩ := I c hc
  obtain ⟨a1, a2⟩ := M c hc
  by_cases e : f c = -1
  · have hno : ∀ k : Nat, k ≤ n → ¬ lvF F T m fr but k c := fun k hk q => by have := (i2 k hk).mpr q; omega
    obtain ⟨b1, b2, k0, b3, b4, b5⟩ | ⟨b1, b2⟩ := a2 e
    · refine ⟨by omega, fun k hk => ?_⟩
      by_cases q : k ≤ n
      · constructor
        · intro w; omega
        · intro w; exact absurd w (hno k q)
      · obtain rfl : k = n + 1 := by omega
        constructor
        · intro _
          have f0 := hE k0 b3
          have := (I (F k0).toNat (by omega)).2 n (Nat.le_refl n)
          rw [Int.toNat_of_nonneg f0.1.1] at this
          exact Or.inr ⟨k0, b3, this.mp (by omega), b5, b2⟩
        · intro _; omega
    · refine ⟨Or.inl b1, fun k hk => ?_⟩
      by_cases q : k ≤ n
      · constructor
        · intro w; omega
        · intro w; exact absurd w (hno k q)
      · obtain rfl : k = n + 1 := by omega
        constructor
        · intro w; omega
        · intro w
          exfalso
          obtain w | ⟨e1, w1, w2, w3, w4⟩ := w
          · exact hno n (Nat.le_refl n) w
          · have f0 := hE e1 w1
            have := (I (F e1).toNat (by omega))
            rw [Int.toNat_of_nonneg f0.1.1] at this
            have t1 := (this.2 n (Nat.le_refl n)).mpr w2
            by_cases t2 : f (F e1) = n
            · exact w4 (b2 e1 w1 t2 w3)
            · have t3 := (this.2 (f (F e1)).toNat (by omega)).mp (by omega)
              exact hno ((f (F e1)).toNat + 1) (by omega) (Or.inr ⟨e1, w1, t3, w3, w4⟩)
  · have a3 := a1 e
    refine ⟨by omega, fun k hk => ?_⟩
    rw [a3]
    by_cases q : k ≤ n
    · exact i2 k q
    · obtain rfl : k = n + 1 := by omega
      constructor
      · intro _; exact Or.inl ((i2 n (Nat.le_refl n)).mp (by omega))
      · intro _; omega
end FR
def of168 (G D : Sto) : Prop := ∀ z j : Int, ¬ z = 168 → G z j = D z j
section F2
variable {xs : Int → Int} {n : Int × Int} {D : Sto} {nb m : Nat}
theorem of_f {G : Sto} (h : of168 G D) (z : Int) (hz : ¬ z = 168) : G z = D z := funext (fun j => h z j hz)
theorem of_RG {G : Sto} (h : of168 G D) (H : RG D nb m) : RG G nb m := by
  unfold RG
  rw [of_f h 131 (by decide), of_f h 136 (by decide), of_f h 137 (by decide)]
  exact H
theorem k291i (d : Nat) (but : Int) (H : RG D nb m) (rd : Nat) (hrd : rd < 100) (f : Int → Int) : ∀ r j (G : Sto), j + r = m → of168 G D → MI (D 136) (D 137) but rd f (G 168) j → ∃ G', of168 G' D ∧ MI (D 136) (D 137) but rd f (G' 168) m ∧ Rn d 291 49 [some (2, 129), none, some (0, but), some (0, (rd : Int)), some (0, (j : Int)), none] [] (Sg xs n G) = Rn d 291 36 [some (2, 129), none, some (0, but), some (0, ((rd + 1 : Nat) : Int)), some (0, (m : Int)), none] [] (Sg xs n G') := by
  obtain ⟨hnb, h8, hm, h16, hE⟩ := H
  intro r
  induction r with
  | zero =>
    intro j G hj hG hM
    obtain rfl : j = m := by omega
    refine ⟨G, hG, hM, ?_⟩
    rw [h291_49, of_f hG 131 (by decide), hm, if_pos (by omega), w1 (by omega)]
  | succ r ih =>
    intro j G hj hG hM
    obtain ⟨⟨f1, f2⟩, f3, f4⟩ := hE j (by omega)
    have hF : 0 ≤ D 136 j ∧ D 136 j < 8 := by omega
    have no : ¬ (G 168 (D 136 j) = rd ∧ ¬ D 137 j = but ∧ G 168 (D 137 j) = -1) → ∃ G', of168 G' D ∧ MI (D 136) (D 137) but rd f (G' 168) m ∧ Rn d 291 112 [some (2, 129), none, some (0, but), some (0, (rd : Int)), some (0, (j : Int)), some (0, D 137 j)] [] (Sg xs n G) = Rn d 291 36 [some (2, 129), none, some (0, but), some (0, ((rd + 1 : Nat) : Int)), some (0, (m : Int)), none] [] (Sg xs n G') := by
      intro h
      obtain ⟨G', a1, a2, a3⟩ := ih (j + 1) G (by omega) hG (MI_no hM hF h)
      refine ⟨G', a1, a2, ?_⟩
      rw [h291_112, w1 (by omega)]
      exact a3
    rw [h291_49, of_f hG 131 (by decide), of_f hG 136 (by decide), of_f hG 137 (by decide), hm, if_neg (by omega), if_pos (inb_t (by omega) (by omega)), if_pos (inb_t (by omega) (by omega)), if_pos (inb_t f1 (by omega)), inb_t f3 (show D 137 j < 8 by omega), if_pos rfl, if_pos rfl]
    by_cases c1 : G 168 (D 136 j) = rd
    · rw [if_neg (by simp [c1])]
      by_cases c2 : D 137 j = but
      · rw [if_pos c2]
        exact no (fun w => w.2.1 c2)
      · rw [if_neg c2]
        by_cases c3 : G 168 (D 137 j) = -1
        · rw [if_neg (by simp [c3])]
          have eg : (up G 168 (D 137 j) ((rd : Int) + 1)) 168 = fun i => if i = D 137 j then (rd : Int) + 1 else G 168 i := by
            funext i
            unfold up
            simp
          obtain ⟨G', a1, a2, a3⟩ := ih (j + 1) (up G 168 (D 137 j) ((rd : Int) + 1)) (by omega) (fun z i hz => by rw [up_ne hz]; exact hG z i hz) (by rw [eg]; exact MI_up hM hF ⟨c1, c2, c3⟩)
          refine ⟨G', a1, a2, ?_⟩
          rw [w32_idP (z := (rd : Int) + 1) (by omega) (by omega), h291_112, w1 (by omega)]
          exact a3
        · rw [if_pos c3]
          exact no (fun w => c3 w.2.2)
    · rw [if_pos c1]
      exact no (fun w => c1 w.1)
theorem k291o (d : Nat) (fr but : Int) (H : RG D nb m) : ∀ r rd (G : Sto) o1 o4, rd + r = nb → of168 G D → FI (D 136) (D 137) m fr but (G 168) rd → ∃ G', of168 G' D ∧ FI (D 136) (D 137) m fr but (G' 168) nb ∧ Rn d 291 36 [some (2, 129), o1, some (0, but), some (0, (rd : Int)), o4, none] [] (Sg xs n G) = some ((9, 0), Sg xs n G') := by
  have H' := H
  obtain ⟨hnb, h8, hm, h16, hE⟩ := H
  intro r
  induction r with
  | zero =>
    intro rd G o1 o4 hr hG hI
    obtain rfl : rd = nb := by omega
    refine ⟨G, hG, hI, ?_⟩
    rw [h291_36, of_f hG 131 (by decide), hnb, if_pos (by omega)]
  | succ r ih =>
    intro rd G o1 o4 hr hG hI
    obtain ⟨G1, a1, a2, a3⟩ := k291i (xs := xs) (n := n) d but H' rd (by omega) (G 168) m 0 G (by omega) hG MI_0
    obtain ⟨G2, b1, b2, b3⟩ := ih (rd + 1) G1 none (some (0, (m : Int))) (by omega) a1 (FI_s (fun k hk => by have := hE k hk; omega) hI a2)
    refine ⟨G2, b1, b2, ?_⟩
    rw [h291_36, of_f hG 131 (by decide), hnb, if_neg (by omega)]
    exact a3.trans b3
theorem c291 (d : Nat) (fr but : Int) (H : RG D nb m) (h0 : 0 ≤ fr) (h1 : fr < 8) : ∃ G, of168 G D ∧ FI (D 136) (D 137) m fr but (G 168) nb ∧ den (d + 1) 291 [(2, 129), (0, fr), (0, but)] (Sg xs n D) = some ((9, 0), Sg xs n G) := by
  have key : ∀ r j (G : Sto), j + r = 8 → of168 G D → (∀ c : Nat, c < j → G 168 c = -1) → ∃ G', of168 G' D ∧ (∀ c : Nat, c < 8 → G' 168 c = -1) ∧ Rn d 291 2 [some (2, 129), some (0, fr), some (0, but), some (0, (j : Int)), none, none] [] (Sg xs n G) = Rn d 291 2 [some (2, 129), some (0, fr), some (0, but), some (0, 8), none, none] [] (Sg xs n G') := by
    intro r
    induction r with
    | zero =>
      intro j G hj hG hz
      obtain rfl : j = 8 := by omega
      exact ⟨G, hG, hz, rfl⟩
    | succ r ih =>
      intro j G hj hG hz
      obtain ⟨G', a1, a2, a3⟩ := ih (j + 1) (up G 168 j (-1)) (by omega) (fun z i h => by rw [up_ne h]; exact hG z i h) (fun c hc => by
        by_cases e : c = j
        · rw [e, up_at]
        · rw [up_ni (by omega)]
          exact hz c (by omega))
      refine ⟨G', a1, a2, ?_⟩
      rw [h291_2, if_neg (by omega), if_pos (inb_t (by omega) (by omega)), w1 (by omega)]
      exact a3
  obtain ⟨G, a1, a2, a3⟩ := key 8 0 D (by omega) (fun _ _ _ => rfl) (fun c hc => by omega)
  rw [n291, h291_0]
  rw [show (((0 : Nat)) : Int) = 0 from rfl] at a3
  by_cases e : fr = but
  · refine ⟨G, a1, ?_, ?_⟩
    · intro c hc
      refine ⟨Or.inl (a2 c hc), fun k _ => ?_⟩
      rw [a2 c hc]
      constructor
      · intro w; omega
      · intro w; exact absurd w (lv_b k _ e)
    · rw [a3, h291_2, if_pos (by decide), if_neg (by simp [e])]
  · obtain ⟨G', b1, b2, b3⟩ := k291o (xs := xs) (n := n) d fr but H nb 0 (up G 168 fr 0) (some (0, fr)) none (by omega) (fun z i h => by rw [up_ne h]; exact a1 z i h) (by
      intro c hc
      by_cases q : (c : Int) = fr
      · rw [q, up_at]
        refine ⟨Or.inr (by omega), fun k hk => ?_⟩
        obtain rfl : k = 0 := by omega
        constructor
        · intro _; exact ⟨rfl, e⟩
        · intro _; omega
      · rw [up_ni q, a2 c hc]
        refine ⟨Or.inl rfl, fun k hk => ?_⟩
        obtain rfl : k = 0 := by omega
        constructor
        · intro w; omega
        · intro w; exact absurd w.1 q)
    refine ⟨G', b1, b2, ?_⟩
    rw [a3, h291_2, if_pos (by decide), if_pos e, if_pos (inb_t h0 h1)]
    exact b3
theorem c292 (d : Nat) (fr to : Int) (H : RG D nb m) (h0 : 0 ≤ fr) (h1 : fr < 8) (h2 : 0 ≤ to) (h3 : to < 8) : ∃ G, of168 G D ∧ FI (D 136) (D 137) m fr (-1) (G 168) nb ∧ den (d + 2) 292 [(2, 129), (0, fr), (0, to)] (Sg xs n D) = some ((0, G 168 to), Sg xs n G) := by
  obtain ⟨G, a1, a2, a3⟩ := c291 (xs := xs) (n := n) d fr (-1) H h0 h1
  refine ⟨G, a1, a2, ?_⟩
  rw [n292, h292_0, a3, cK9]
  show Rn (d + 1) 292 6 [some (2, 129), some (0, fr), some (0, to)] [] (Sg xs n G) = _
  rw [h292_6, if_pos (inb_t h2 h3)]
theorem sim_of {G : Sto} (h : of168 G D) : sim G D := fun z j hz => h z j (by unfold scr at hz; omega)
/-- the class's rows of what lies behind a block -/
abbrev nxD (D : Sto) (m : Nat) : Nat → Nat := fun b => nxE (D 136) (D 137) b m
theorem NX_of (K : RelK D nb m) (X : RelX D nb m) : NX D nb (nxD D m) := by
  obtain ⟨⟨g1, g2, g3, g4⟩, hB, hS, h46, h45, hRB⟩ := RelK_G K
  refine ⟨g1.1, g1.2.1, fun k hk => ⟨(X.1 k hk).2.2.1, ?_⟩⟩
  exact nxE_lt (n := 8) (fun e he => by have := (g2.2.2.2.2 e he).2.2; have := g1.2.1; omega) (by decide) m (Nat.le_refl m)
theorem RG_E (H : RG D nb m) : ∀ k : Nat, k < m → (0 ≤ D 136 k ∧ D 136 k < nb) ∧ 0 ≤ D 137 k ∧ D 137 k < nb := H.2.2.2.2
theorem nxD_lt (H : RG D nb m) {b : Nat} (hb : 0 < nb) : nxD D m b < 2 ^ nb := nxE_lt (n := nb) (fun e he => (H.2.2.2.2 e he).2.2) hb m (Nat.le_refl m)
/-- reached, in bits and in the reference's row -/
theorem rch_f (H : RG D nb m) {f : Int → Int} {start shut : Nat} {but : Int} (hs : ∀ j : Nat, shut.testBit j = true ↔ (j : Int) = but) (I : FI (D 136) (D 137) m start but f nb) {c : Nat} (hc : c < 8) (hb : ¬ (c : Int) = but) : (rchI (nxD D m) nb shut start nb).testBit c = true ↔ ¬ f c = -1 := by
  rw [rch_lv (fun b _ => rfl) (RG_E H) hs nb c hb]
  obtain ⟨i1, i2⟩ := I c hc
  rw [← i2 nb (Nat.le_refl nb)]
  omega
theorem no_t {j : Nat} : (0 : Nat).testBit j = true ↔ (j : Int) = -1 := by
  rw [Nat.zero_testBit]
  constructor
  · intro h; cases h
  · intro h; omega
theorem tp_i {j k : Nat} : (2 ^ k : Nat).testBit j = true ↔ (j : Int) = (k : Int) := by
  rw [tp_t]
  omega
theorem lv_stop (H : RG D nb m) {start : Nat} (hs : start < nb) {c : Nat} (h : lvF (D 136) (D 137) m start (-1) nb c) : lvF (D 136) (D 137) m start (-1) (nb - 1) c := by
  have hlt : ∀ k, rchI (nxD D m) nb 0 start k < 2 ^ nb := by
    intro k
    induction k with
    | zero => exact Nat.pow_lt_pow_right (by decide) hs
    | succ k ih =>
      rw [rch0]
      apply Nat.or_lt_two_pow ih
      have : ∀ j, bhd (nxD D m) (rchI (nxD D m) nb 0 start k) j < 2 ^ nb := by
        intro j
        induction j with
        | zero => exact Nat.two_pow_pos nb
        | succ j ih2 =>
          unfold bhd
          split
          · exact Nat.or_lt_two_pow ih2 (nxD_lt H (by omega))
          · exact ih2
      exact this nb
  have e := chain_stop (s := fun k => rchI (nxD D m) nb 0 start k) (g := fun s => bhd (nxD D m) s nb) (n := nb) (fun k => rch0 k) hlt (by
    show ¬ 2 ^ start = 0
    have := Nat.two_pow_pos start
    omega)
  have r1 := rch_lv (nx := nxD D m) (shut := 0) (start := start) (fun b _ => rfl) (RG_E H) (fun j => no_t) nb c (by omega)
  have r2 := rch_lv (nx := nxD D m) (shut := 0) (start := start) (fun b _ => rfl) (RG_E H) (fun j => no_t) (nb - 1) c (by omega)
  rw [← r2]
  rw [← e]
  exact r1.mpr h
/-- the reference's row beside the class's search for a set -/
theorem dst_f (H : RG D nb m) {f : Int → Int} {start goals : Nat} (hs : start < nb) (hg : goals < 2 ^ nb) (I : FI (D 136) (D 137) m start (-1) f nb) {v : Int} (hv : (v = -2 ∧ ∀ c : Nat, goals.testBit c = true → f c = -1) ∨ (0 ≤ v ∧ (∃ c : Nat, goals.testBit c = true ∧ f c = v) ∧ ∀ c : Nat, goals.testBit c = true → ¬ f c = -1 → v ≤ f c)) : dstF (nxD D m) nb goals nb (2 ^ start) = v := by
  have h8 := H.2.1
  have hr : ∀ k (c : Nat), (rchI (nxD D m) nb 0 start k).testBit c = true ↔ lvF (D 136) (D 137) m start (-1) k c := fun k c => rch_lv (nx := nxD D m) (shut := 0) (start := start) (fun b _ => rfl) (RG_E H) (fun j => no_t) k c (by omega)
  obtain ⟨e1, e2⟩ | ⟨k, e1, e2, e3, e4⟩ := dst_sp (nx := nxD D m) (nb := nb) (start := start) (goals := goals)
  · rw [e1]
    obtain ⟨h1, h2⟩ | ⟨h1, ⟨c, h2, h3⟩, h4⟩ := hv
    · exact h1.symm
    · exfalso
      have hcn := lt_t hg h2
      have i := I c (by omega)
      have j1 := (i.2 nb (Nat.le_refl nb)).mp (by omega)
      have j2 := lv_stop H hs j1
      have j3 := e2 (nb - 1) (by omega)
      exact and_nz.mpr ⟨c, (hr _ c).mpr j2, h2⟩ j3
  · rw [e2]
    obtain ⟨c, h1, h2⟩ := and_nz.mp e3
    have hcn := lt_t hg h2
    have i := I c (by omega)
    have j1 := (i.2 k (by omega)).mpr ((hr k c).mp h1)
    obtain ⟨_, q2⟩ | ⟨q1, ⟨c2, q2, q3⟩, q4⟩ := hv
    · have := q2 c h2
      omega
    · have q5 := q4 c h2 (by omega)
      have hcn2 := lt_t hg q2
      have i2 := I c2 (by omega)
      by_cases w : v < k
      · exfalso
        have j2 := (i2.2 v.toNat (by omega)).mp (by omega)
        have j3 := e4 v.toNat (by omega)
        exact and_nz.mpr ⟨c2, (hr _ c2).mpr j2, q2⟩ j3
      · omega
end F2
