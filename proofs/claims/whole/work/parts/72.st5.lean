/-! States behind a slip: the reference's walk through all of them -/
section RC
variable {nx : Nat → Nat} {nb shut start : Nat}
theorem rch_s (k : Nat) : rchI nx nb shut start (k + 1) = rchI nx nb shut start k ||| bhd nx (rchI nx nb shut start k ^^^ (rchI nx nb shut start k &&& shut)) nb := rfl
theorem bhd_n {set : Nat} (h : ∀ k, k < nb → nx k < 2 ^ nb) : ∀ k, k ≤ nb → bhd nx set k < 2 ^ nb := by
  intro k
  induction k with
  | zero => intro _; exact Nat.two_pow_pos nb
  | succ k ih =>
    intro hk
    unfold bhd
    split
    · exact Nat.or_lt_two_pow (ih (by omega)) (h k (by omega))
    · exact ih (by omega)
theorem rch_n (h : ∀ k, k < nb → nx k < 2 ^ nb) (hs : start < nb) (k : Nat) : rchI nx nb shut start k < 2 ^ nb := by
  induction k with
  | zero => exact Nat.pow_lt_pow_right (by decide) hs
  | succ k ih =>
    rw [rch_s]
    exact Nat.or_lt_two_pow ih (bhd_n h nb (Nat.le_refl nb))
theorem rch_mono {c : Nat} : ∀ j k, (rchI nx nb shut start k).testBit c = true → (rchI nx nb shut start (k + j)).testBit c = true := by
  intro j
  induction j with
  | zero => intro k h; exact h
  | succ j ih =>
    intro k h
    rw [show k + (j + 1) = (k + j) + 1 by omega, rch_s, or_t]
    exact Or.inl (ih k h)
theorem rch_le {c j k : Nat} (h : j ≤ k) (w : (rchI nx nb shut start j).testBit c = true) : (rchI nx nb shut start k).testBit c = true := by
  have := rch_mono (k - j) j w
  rw [show j + (k - j) = k by omega] at this
  exact this
theorem rch_st (h : ∀ k, k < nb → nx k < 2 ^ nb) (hs : start < nb) : ∀ k, nb - 1 ≤ k → rchI nx nb shut start k = rchI nx nb shut start (nb - 1) := by
  have e := chain_stop (s := fun k => rchI nx nb shut start k) (g := fun s => bhd nx (s ^^^ (s &&& shut)) nb) (n := nb) (fun k => rch_s k) (fun k => rch_n h hs k) (by
    show ¬ 2 ^ start = 0
    have := Nat.two_pow_pos start
    omega)
  have e' : rchI nx nb shut start nb = rchI nx nb shut start (nb - 1) := e
  have key : ∀ i, rchI nx nb shut start (nb - 1 + i) = rchI nx nb shut start (nb - 1) := by
    intro i
    induction i with
    | zero => rfl
    | succ i ih => rw [show nb - 1 + (i + 1) = (nb - 1 + i) + 1 by omega, rch_s, ih, ← rch_s, show nb - 1 + 1 = nb by omega, e']
  intro k hk
  have := key (k - (nb - 1))
  rw [show nb - 1 + (k - (nb - 1)) = k by omega] at this
  exact this
theorem rch_any (h : ∀ k, k < nb → nx k < 2 ^ nb) (hs : start < nb) {c k : Nat} (w : (rchI nx nb shut start k).testBit c = true) : (rchI nx nb shut start (nb - 1)).testBit c = true := by
  by_cases q : k ≤ nb - 1
  · exact rch_le q w
  · rw [rch_st h hs k (by omega)] at w
    exact w
end RC
section RD
variable {F T : Int → Int} {nb m shut start : Nat}
theorem rch_e (hE : ∀ k : Nat, k < m → (0 ≤ F k ∧ F k < nb) ∧ 0 ≤ T k ∧ T k < nb) {k e : Nat} (he : e < m) (h1 : (rchI (fun b => nxE F T b m) nb shut start k).testBit (F e).toNat = true) (h2 : ¬ shut.testBit (F e).toNat = true) : (rchI (fun b => nxE F T b m) nb shut start (k + 1)).testBit (T e).toNat = true := by
  obtain ⟨f1, f2⟩ := hE e he
  rw [rch_s, or_t]
  right
  rw [bhd_t]
  refine ⟨(F e).toNat, by omega, andn_t.mpr ⟨h1, h2⟩, ?_⟩
  rw [nxE_t (fun k hk => (hE k hk).2.1) m (Nat.le_refl m)]
  exact ⟨e, he, (Int.toNat_of_nonneg f1.1).symm, (Int.toNat_of_nonneg f2.1).symm⟩
theorem rch_i (hE : ∀ k : Nat, k < m → (0 ≤ F k ∧ F k < nb) ∧ 0 ≤ T k ∧ T k < nb) {k c : Nat} (h : (rchI (fun b => nxE F T b m) nb shut start (k + 1)).testBit c = true) : (rchI (fun b => nxE F T b m) nb shut start k).testBit c = true ∨ ∃ e : Nat, e < m ∧ (rchI (fun b => nxE F T b m) nb shut start k).testBit (F e).toNat = true ∧ ¬ shut.testBit (F e).toNat = true ∧ (T e).toNat = c := by
  rw [rch_s, or_t] at h
  obtain h | h := h
  · exact Or.inl h
  · right
    rw [bhd_t] at h
    obtain ⟨b, h1, h2, h3⟩ := h
    rw [nxE_t (fun k hk => (hE k hk).2.1) m (Nat.le_refl m)] at h3
    obtain ⟨e, e1, e2, e3⟩ := h3
    have := andn_t.mp h2
    have e4 : (F e).toNat = b := by omega
    refine ⟨e, e1, ?_, ?_, by omega⟩
    · rw [e4]; exact this.1
    · rw [e4]; exact this.2
end RD
def BF (G D : Sto) (nb m s X ck : Nat) (cn : Nat → Bool) (b0 : Nat) (a0 : Int) (k i : Nat) : Prop := (SI G D nb m s X ck cn ∧ G 157 0 = b0 ∧ G 159 0 = a0 ∧ k ≤ s) ∧ (∀ j : Nat, j < s → 1 ≤ G 160 j ∧ G 160 j ≤ (j : Int) + 1) ∧ (∀ h j : Nat, h < j → j < s → G 160 h ≤ G 160 j) ∧ (k < s → ∀ j : Nat, j < s → G 160 j ≤ G 160 k + 1) ∧ (∀ j : Nat, j < s → (rchI (nxD D m) nb (ceX X ck) b0 (G 160 j - 1).toNat).testBit (G 157 j).toNat = true) ∧ (∀ h : Nat, h < k → ¬ (ceX X ck).testBit (G 157 h).toNat = true → ∀ e : Nat, e < m → D 136 e = G 157 h → ∃ j : Nat, j < s ∧ G 157 j = D 137 e ∧ G 159 j = D 162 e ∧ G 160 j ≤ G 160 h + 1) ∧ (∀ h : Nat, h < i → ∃ j : Nat, j < s ∧ G 157 j = D 137 (nthE (D 136) (fun z => z) (G 157 k) m m h) ∧ G 159 j = D 162 (nthE (D 136) (fun z => z) (G 157 k) m m h) ∧ G 160 j ≤ G 160 k + 1)
section S72
variable {xs : Int → Int} {n : Int × Int} {D G : Sto} {nb m s X ck b0 : Nat} {cn al : Nat → Bool} {a0 : Int}
/-- blocks that are come to and left -/
abbrev lfS (D : Sto) (nb m ce b0 : Nat) : Nat := rchI (nxD D m) nb ce b0 nb ^^^ (rchI (nxD D m) nb ce b0 nb &&& ce)
theorem lf_t {ce : Nat} (H : RG D nb m) (hb : b0 < nb) {c k : Nat} (h1 : (rchI (nxD D m) nb ce b0 k).testBit c = true) (h2 : ¬ ce.testBit c = true) : (lfS D nb m ce b0).testBit c = true := by
  rw [andn_t]
  have := rch_any (fun k hk => nxD_lt H (by omega)) hb h1
  exact ⟨rch_le (by omega) this, h2⟩
theorem BF_fnd {k i j : Nat} (F0 : BF G D nb m s X ck cn b0 a0 k i) (hk : k < s) (hj : j < s) (h1 : G 157 j = D 137 (nthE (D 136) (fun z => z) (G 157 k) m m i)) (h2 : G 159 j = D 162 (nthE (D 136) (fun z => z) (G 157 k) m m i)) : BF G D nb m s X ck cn b0 a0 k (i + 1) := by
  obtain ⟨f1, f2, f3, f4, f5, f6, f7⟩ := F0
  refine ⟨f1, f2, f3, f4, f5, f6, fun h hh => ?_⟩
  by_cases q : h = i
  · subst q
    exact ⟨j, hj, h1, h2, f4 hk j hj⟩
  · exact f7 h (by omega)
theorem BF_new {k i : Nat} {G' : Sto} {e : Nat} (B : BS D nb m) (F0 : BF G D nb m s X ck cn b0 a0 k i) (hk : k < s) (I' : SI G' D nb m (s + 1) X ck cn) (E : Ext G G' s (s + 1)) (he : e < m) (hF : D 136 e = G 157 k) (hn : nthE (D 136) (fun z => z) (G 157 k) m m i = e) (hc : ¬ (ceX X ck).testBit (G 157 k).toNat = true) (h1 : G' 157 s = D 137 e) (h2 : G' 159 s = D 162 e) : BF (up G' 160 s (G 160 k + 1)) D nb m (s + 1) X ck cn b0 a0 k (i + 1) := by
  obtain ⟨⟨g1, g2, g3, g4⟩, f2, f3, f4, f5, f6, f7⟩ := F0
  have o : ∀ (z : Int) (j : Nat), 157 ≤ z → z ≤ 161 → j < s → up G' 160 s (G 160 k + 1) z j = G z j := by
    intro z j a1 a2 a3
    by_cases q : z = 160
    · rw [up_ni (by omega)]
      exact E.2.1 z j a1 a2 a3
    · rw [up_ne q]
      exact E.2.1 z j a1 a2 a3
  have s157 : up G' 160 s (G 160 k + 1) 157 s = D 137 e := by rw [up_ne (by decide)]; exact h1
  have s159 : up G' 160 s (G 160 k + 1) 159 s = D 162 e := by rw [up_ne (by decide)]; exact h2
  have s160 : up G' 160 s (G 160 k + 1) 160 s = G 160 k + 1 := up_at
  have z0 : 0 < s := by omega
  have k2 := f2 k hk
  refine ⟨⟨SI_u I' (fun z j hz => up_ne (by omega)), ?_, ?_, by omega⟩, ?_, ?_, ?_, ?_, ?_, ?_⟩
  · have := o 157 0 (by decide) (by decide) z0
    exact this.trans g2
  · have := o 159 0 (by decide) (by decide) z0
    exact this.trans g3
  · intro j hj
    by_cases q : j = s
    · rw [q, s160]
      omega
    · rw [o 160 j (by decide) (by decide) (by omega)]
      exact f2 j (by omega)
  · intro h j hhj hj
    rw [o 160 h (by decide) (by decide) (by omega)]
    by_cases q : j = s
    · rw [q, s160]
      exact f4 hk h (by omega)
    · rw [o 160 j (by decide) (by decide) (by omega)]
      exact f3 h j hhj (by omega)
  · intro _ j hj
    rw [o 160 k (by decide) (by decide) hk]
    by_cases q : j = s
    · rw [q, s160]
      exact Int.le_refl _
    · rw [o 160 j (by decide) (by decide) (by omega)]
      exact f4 hk j (by omega)
  · intro j hj
    by_cases q : j = s
    · rw [q, s160, s157]
      have w := f5 k hk
      rw [← hF] at w hc
      have := rch_e (RG_E B.1.1) (k := (G 160 k - 1).toNat) he w hc
      rw [show (G 160 k - 1).toNat + 1 = (G 160 k + 1 - 1).toNat by omega] at this
      exact this
    · rw [o 160 j (by decide) (by decide) (by omega), o 157 j (by decide) (by decide) (by omega)]
      exact f5 j (by omega)
  · intro h hh hc2 e' he' hF'
    rw [o 157 h (by decide) (by decide) (by omega)] at hc2 hF'
    obtain ⟨j, j1, j2, j3, j4⟩ := f6 h hh hc2 e' he' hF'
    refine ⟨j, by omega, ?_, ?_, ?_⟩
    · rw [o 157 j (by decide) (by decide) j1]; exact j2
    · rw [o 159 j (by decide) (by decide) j1]; exact j3
    · rw [o 160 j (by decide) (by decide) j1, o 160 h (by decide) (by decide) (by omega)]; exact j4
  · intro h hh
    rw [o 157 k (by decide) (by decide) hk, o 160 k (by decide) (by decide) hk]
    by_cases q : h = i
    · rw [q, hn]
      exact ⟨s, by omega, s157, s159, by rw [s160]; exact Int.le_refl _⟩
    · obtain ⟨j, j1, j2, j3, j4⟩ := f7 h (by omega)
      refine ⟨j, by omega, ?_, ?_, ?_⟩
      · rw [o 157 j (by decide) (by decide) j1]; exact j2
      · rw [o 159 j (by decide) (by decide) j1]; exact j3
      · rw [o 160 j (by decide) (by decide) j1]; exact j4
theorem k279i (d : Nat) (B : BS D nb m) (L : LN D nb m) (C : CN D m b0 a0 (fun e => (lfS D nb m (ceX X ck) b0).testBit (D 136 e).toNat) cn) (hX : X < 256) (hb : b0 < nb) (k : Nat) (l3 : Int) : ∀ q (i : Nat) (G : Sto) (s : Nat), BF G D nb m s X ck cn b0 a0 k i → k < s → ¬ (ceX X ck).testBit (G 157 k).toNat = true → ((i + q : Nat) : Int) = cntE (D 136) (G 157 k) m → ∃ (G' : Sto) (s' i' : Nat), BF G' D nb m s' X ck cn b0 a0 k i' ∧ ((i' : Int) = cntE (D 136) (G' 157 k) m ∧ s ≤ s' ∧ ∀ (z : Int) (j : Nat), 157 ≤ z → z ≤ 160 → j < s → G' z j = G z j) ∧ Rn (d + 4) 279 69 [some (2, 129), none, none, some (0, l3), some (0, (k : Int)), some (0, (i : Int)), none] [] (Sg xs n G) = Rn (d + 4) 279 129 [some (2, 129), none, none, some (0, l3), some (0, (k : Int)), some (0, (i' : Int)), none] [] (Sg xs n G') := by
  have H := B.1.1
  have h8 := H.2.1
  have h16 := H.2.2.2.1
  intro q
  induction q with
  | zero =>
    intro i G s F0 hk hc hi
    have I := F0.1.1
    have hs := SI_le I h16
    obtain ⟨g1, g2⟩ := I.2.2.1 k hk
    have eg : ((G 157 k).toNat : Int) = G 157 k := Int.toNat_of_nonneg g1.1
    have q3 := (L.1 (G 157 k).toNat (by omega)).2.2.1
    rw [eg] at q3
    refine ⟨G, s, i, F0, ⟨by omega, Nat.le_refl s, fun _ _ _ _ _ => rfl⟩, ?_⟩
    rw [h279_69, if_pos (inb_t (by omega) (by omega)), if_pos (inb_t g1.1 (by omega)), ofS_z I.1 165 _ (by decide) (by decide), q3, if_pos (by omega)]
  | succ q ih =>
    intro i G s F0 hk hc hi
    have I := F0.1.1
    have hs := SI_le I h16
    obtain ⟨g1, g2⟩ := I.2.2.1 k hk
    have eg : ((G 157 k).toNat : Int) = G 157 k := Int.toNat_of_nonneg g1.1
    have q3 := (L.1 (G 157 k).toNat (by omega)).2.2.1
    rw [eg] at q3
    obtain ⟨e, a1, a2, a3⟩ := nth_ok (f := D 136) (g := fun z => z) (v := G 157 k) (m := m) (i := (i : Int)) (by omega) (by omega)
    have a3' : nthE (D 136) (fun z => z) (G 157 k) m m i = e := a3
    have hcb := cntE_b (D 136) (G 157 k) m
    have hi16 : i < 17 := by omega
    have hal : (lfS D nb m (ceX X ck) b0).testBit (D 136 e).toNat = true := by
      rw [a2]
      exact lf_t H hb (F0.2.2.2.2.1 k hk) hc
    obtain ⟨G1, s1, j, ⟨I1, E1⟩, ⟨j1, j2, j3, j4⟩, j5⟩ := c274 (xs := xs) (n := n) (d + 1) B L I C hX F0.1.2.1 F0.1.2.2.1 hk (i := i) (by omega) a1 a2 a3' hal
    have hs1 := SI_le I1 h16
    have step : Rn (d + 4) 279 69 [some (2, 129), none, none, some (0, l3), some (0, (k : Int)), some (0, (i : Int)), none] [] (Sg xs n G) = Rn (d + 4) 279 94 [some (2, 129), none, none, some (0, l3), some (0, (k : Int)), some (0, (i : Int)), none] [(0, (j : Int))] (Sg xs n G1) := by
      rw [h279_69, if_pos (inb_t (by omega) (by omega)), if_pos (inb_t g1.1 (by omega)), ofS_z I.1 165 _ (by decide) (by decide), q3, if_neg (by omega), j5, cK0, pR0]
    rw [step, h279_94, inb_t (show (0 : Int) ≤ (j : Int) by omega) (show (j : Int) < 600 by omega), inb_t (show (0 : Int) ≤ (k : Int) by omega) (show (k : Int) < 600 by omega), if_pos rfl, if_pos rfl, if_pos rfl]
    obtain ⟨w1', w2', w3'⟩ | ⟨w1', w2'⟩ := j4
    · subst w1'
      have t := F0.2.1 j w2'
      rw [if_pos (by omega), h279_123, w1 (by omega)]
      exact ih (i + 1) G1 s (BF_fnd F0 hk w2' (by rw [a3']; exact j2) (by rw [a3']; exact j3)) hk hc (by omega)
    · subst w1' w2'
      have t := (E1.2.2 j (Nat.le_refl j) (by omega)).1
      have t2 := E1.2.1 160 k (by decide) (by decide) hk
      have t3 := F0.2.1 k hk
      rw [if_neg (fun w => w t), t2, w32_idP (by omega) (by omega), h279_123, w1 (by omega)]
      have F1 := BF_new B F0 hk I1 E1 a1 a2 a3' hc j2 j3
      have o : ∀ (z : Int) (h : Nat), 157 ≤ z → z ≤ 160 → h < j → up G1 160 j (G 160 k + 1) z h = G z h := by
        intro z h b1 b2 b3
        by_cases q : z = 160
        · rw [up_ni (by omega)]
          exact E1.2.1 z h b1 (by omega) b3
        · rw [up_ne q]
          exact E1.2.1 z h b1 (by omega) b3
      obtain ⟨G', s', i', c1, ⟨c2, c3, c4⟩, c5⟩ := ih (i + 1) (up G1 160 j (G 160 k + 1)) (j + 1) F1 (by omega) (by rw [o 157 k (by decide) (by decide) hk]; exact hc) (by rw [o 157 k (by decide) (by decide) hk]; omega)
      exact ⟨G', s', i', c1, ⟨c2, by omega, fun z h b1 b2 b3 => by rw [c4 z h b1 b2 (by omega)]; exact o z h b1 b2 b3⟩, c5⟩
/-- the first state that is caught, of the first k -/
def l3P (G : Sto) (ce k : Nat) (l3 : Int) : Prop := (l3 = -2 ∧ ∀ h : Nat, h < k → ¬ ce.testBit (G 157 h).toNat = true) ∨ (∃ h : Nat, h < k ∧ ce.testBit (G 157 h).toNat = true ∧ l3 = G 160 h ∧ 1 ≤ l3 ∧ ∀ h' : Nat, h' < h → ¬ ce.testBit (G 157 h').toNat = true)
theorem l3P_ex {G' : Sto} {ce k : Nat} {l3 : Int} (h : ∀ (z : Int) (j : Nat), 157 ≤ z → z ≤ 160 → j < k → G' z j = G z j) (P : l3P G ce k l3) : l3P G' ce k l3 := by
  obtain ⟨p1, p2⟩ | ⟨h0, p1, p2, p3, p4, p5⟩ := P
  · left
    refine ⟨p1, fun h' hh => ?_⟩
    rw [h 157 h' (by decide) (by decide) hh]
    exact p2 h' hh
  · right
    refine ⟨h0, p1, ?_, ?_, p4, fun h' hh => ?_⟩
    · rw [h 157 h0 (by decide) (by decide) p1]; exact p2
    · rw [h 160 h0 (by decide) (by decide) p1]; exact p3
    · rw [h 157 h' (by decide) (by decide) (by omega)]
      exact p5 h' hh
theorem k279 (d : Nat) (B : BS D nb m) (L : LN D nb m) (C : CN D m b0 a0 (fun e => (lfS D nb m (ceX X ck) b0).testBit (D 136 e).toNat) cn) (hX : X < 256) (hc : ck < 256) (hb : b0 < nb) : ∀ r (k : Nat) (G : Sto) (s : Nat) (l3 : Int) o1 o2, k + r = 17 → BF G D nb m s X ck cn b0 a0 k 0 → l3P G (ceX X ck) k l3 → ∃ (G' : Sto) (s' : Nat) (l3' : Int), BF G' D nb m s' X ck cn b0 a0 s' 0 ∧ l3P G' (ceX X ck) s' l3' ∧ Rn (d + 4) 279 29 [some (2, 129), o1, o2, some (0, l3), some (0, (k : Int)), none, none] [] (Sg xs n G) = some ((0, l3'), Sg xs n G') := by
  have H := B.1.1
  have h8 := H.2.1
  have h16 := H.2.2.2.1
  intro r
  induction r with
  | zero =>
    intro k G s l3 o1 o2 hk F0 P
    have I := F0.1.1
    have hs := SI_le I h16
    have := F0.1.2.2.2
    obtain rfl : k = s := by omega
    refine ⟨G, k, l3, F0, P, ?_⟩
    rw [h279_29, I.2.1.1, if_pos (by omega)]
  | succ r ih =>
    intro k G s l3 o1 o2 hk F0 P
    have I := F0.1.1
    have hs := SI_le I h16
    have hks := F0.1.2.2.2
    by_cases q : k = s
    · subst q
      refine ⟨G, k, l3, F0, P, ?_⟩
      rw [h279_29, I.2.1.1, if_pos (by omega)]
    have hlt : k < s := by omega
    obtain ⟨g1, g2⟩ := I.2.2.1 k hlt
    obtain ⟨f1, f2, f3, f4, f5, f6, f7⟩ := F0
    rw [h279_29, I.2.1.1, if_neg (by omega), c271 (d + 1) B I hc hlt, cK0, pR0, h279_44, bB_if]
    simp only [h279_62, h279_129, w1 (show k < 2147483647 by omega), inb_t (show (0 : Int) ≤ (k : Int) by omega) (show (k : Int) < 600 by omega), if_true]
    by_cases c1 : (ceX X ck).testBit (G 157 k).toNat = true
    · rw [if_pos c1]
      have F1 : BF G D nb m s X ck cn b0 a0 (k + 1) 0 := by
        refine ⟨⟨f1.1, f1.2.1, f1.2.2.1, by omega⟩, f2, f3, fun h j hj => ?_, f5, fun h hh hc2 => ?_, fun h hh => by omega⟩
        · have := f4 hlt j hj
          have := f3 k (k + 1) (by omega) h
          omega
        · by_cases w : h = k
          · subst w; exact absurd c1 hc2
          · exact f6 h (by omega) hc2
      have P1 : l3P G (ceX X ck) (k + 1) (if ¬ l3 < 0 then l3 else G 160 k) := by
        obtain ⟨p1, p2⟩ | ⟨h0, p1, p2, p3, p4, p5⟩ := P
        · right
          rw [if_neg (by omega)]
          exact ⟨k, by omega, c1, rfl, (f2 k hlt).1, p2⟩
        · right
          rw [if_pos (by omega)]
          exact ⟨h0, by omega, p2, p3, p4, p5⟩
      obtain ⟨G', s', l3', a1, a2, a3⟩ := ih (k + 1) G s _ none none (by omega) F1 P1
      refine ⟨G', s', l3', a1, a2, ?_⟩
      rw [← a3]
      split <;> rfl
    · rw [if_neg c1]
      have hcb := cntE_b (D 136) (G 157 k) m
      obtain ⟨G1, s1, i1, b1, ⟨b2, b3, b4⟩, b5⟩ := k279i (xs := xs) (n := n) d B L C hX hb k l3 (cntE (D 136) (G 157 k) m).toNat 0 G s ⟨f1, f2, f3, f4, f5, f6, f7⟩ hlt c1 (by omega)
      obtain ⟨t1, t2, t3, t4, t5, t6, t7⟩ := b1
      have F1 : BF G1 D nb m s1 X ck cn b0 a0 (k + 1) 0 := by
        refine ⟨⟨t1.1, t1.2.1, t1.2.2.1, by omega⟩, t2, t3, fun h j hj => ?_, t5, fun h hh hc2 e he hF => ?_, fun h hh => by omega⟩
        · have := t4 (by omega) j hj
          have := t3 k (k + 1) (by omega) h
          omega
        · by_cases w : h = k
          · subst w
            obtain ⟨i', x1, x2⟩ := nth_all (f := D 136) (g := fun z => z) (v := G1 157 h) (m := m) he hF
            have := t7 i' (by omega)
            rw [x2] at this
            exact this
          · exact t6 h (by omega) hc2 e he hF
      have P1 : l3P G1 (ceX X ck) (k + 1) l3 := by
        have P2 := l3P_ex (fun z j u1 u2 u3 => b4 z j u1 u2 (by omega)) P
        obtain ⟨p1, p2⟩ | ⟨h0, p1, p2, p3, p4, p5⟩ := P2
        · left
          refine ⟨p1, fun h hh => ?_⟩
          by_cases w : h = k
          · rw [w, b4 157 k (by decide) (by decide) hlt]; exact c1
          · exact p2 h (by omega)
        · right
          exact ⟨h0, by omega, p2, p3, p4, p5⟩
      obtain ⟨G', s', l3', a1, a2, a3⟩ := ih (k + 1) G1 s1 l3 none none (by omega) F1 P1
      refine ⟨G', s', l3', a1, a2, ?_⟩
      refine b5.trans ?_
      rw [h279_129, w1 (by omega)]
      exact a3
/-- the one edge that stands for a state, of those from blocks that are left -/
def cnB (D : Sto) (lf : Nat) (b0 a0 : Int) (e : Nat) : Bool := lf.testBit (D 136 e).toNat && (!(decide (D 137 e = b0) && decide (D 162 e = a0)) && !exB (fun k => lf.testBit (D 136 k).toNat && (decide (D 137 k = D 137 e) && decide (D 162 k = D 162 e))) e)
theorem cnB_t {lf e : Nat} {b0 a0 : Int} : cnB D lf b0 a0 e = true ↔ lf.testBit (D 136 e).toNat = true ∧ ¬ (D 137 e = b0 ∧ D 162 e = a0) ∧ ∀ k : Nat, k < e → ¬ (lf.testBit (D 136 k).toNat = true ∧ D 137 k = D 137 e ∧ D 162 k = D 162 e) := by
  unfold cnB
  rw [Bool.and_eq_true, Bool.and_eq_true, Bool.not_eq_true', Bool.not_eq_true', Bool.eq_false_iff, Bool.eq_false_iff, Ne, Bool.and_eq_true, decide_eq_true_eq, decide_eq_true_eq, Ne, exB_t]
  constructor
  · intro ⟨h0, h1, h2⟩
    refine ⟨h0, h1, fun k hk w => h2 ⟨k, hk, ?_⟩⟩
    rw [Bool.and_eq_true, Bool.and_eq_true, decide_eq_true_eq, decide_eq_true_eq]
    exact w
  · intro ⟨h0, h1, h2⟩
    refine ⟨h0, h1, fun ⟨k, hk, w⟩ => h2 k hk ?_⟩
    rw [Bool.and_eq_true, Bool.and_eq_true, decide_eq_true_eq, decide_eq_true_eq] at w
    exact w
theorem CN_B {lf : Nat} {b0 a0 : Int} : CN D m b0 a0 (fun e => lf.testBit (D 136 e).toNat) (cnB D lf b0 a0) := by
  refine ⟨fun e _ h => (cnB_t.mp h).2.1, fun e he hal hne => ?_⟩
  obtain ⟨e0, a1, a2, a3⟩ := first_ex (p := fun k => lf.testBit (D 136 (k : Int)).toNat = true ∧ D 137 (k : Int) = D 137 e ∧ D 162 (k : Int) = D 162 e) m e he ⟨hal, rfl, rfl⟩
  refine ⟨e0, by omega, ?_, a2.2, fun e1 h1 h2 h3 h4 => ?_⟩
  · rw [cnB_t]
    refine ⟨a2.1, by rw [a2.2.1, a2.2.2]; exact hne, fun k hk w => a3 k hk ?_⟩
    exact ⟨w.1, by rw [w.2.1]; exact a2.2.1, by rw [w.2.2]; exact a2.2.2⟩
  · have t := cnB_t.mp h2
    by_cases q : e1 < e0
    · exact absurd ⟨t.1, h3, h4⟩ (a3 e1 q)
    · by_cases w : e1 = e0
      · exact w
      · exact absurd ⟨a2.1, by rw [h3]; exact a2.2.1, by rw [h4]; exact a2.2.2⟩ (t.2.2 e0 (by omega))
end S72
