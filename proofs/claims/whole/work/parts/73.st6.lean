/-! Twins: caught, soonest, beyond -/
section S73
variable {xs : Int → Int} {n : Int × Int} {D G : Sto} {nb m s X ck b0 : Nat} {cn al : Nat → Bool} {a0 : Int}
theorem BF_cl {ce : Nat} (F0 : BF G D nb m s X ck cn b0 a0 s 0) (hce : ceX X ck = ce) (H : RG D nb m) : ∀ u (c : Nat), (rchI (nxD D m) nb ce b0 u).testBit c = true → ∃ j : Nat, j < s ∧ (G 157 j).toNat = c := by
  obtain ⟨⟨g1, g2, g3, g4⟩, f2, f3, f4, f5, f6, f7⟩ := F0
  rw [hce] at f6
  intro u
  induction u with
  | zero =>
    intro c h
    have : b0 = c := tp_t.mp h
    refine ⟨0, g1.2.1.2.2, ?_⟩
    show (G 157 0).toNat = c
    rw [g2]
    omega
  | succ u ih =>
    intro c h
    obtain h | ⟨e, e1, e2, e3, e4⟩ := rch_i (RG_E H) h
    · exact ih c h
    · obtain ⟨j, j1, j2⟩ := ih _ e2
      have gj := (g1.2.2.1 j j1).1
      have ge := ((RG_E H) e e1).1
      obtain ⟨j', k1, k2, k3, k4⟩ := f6 j j1 (by rw [j2]; exact e3) e e1 (by omega)
      exact ⟨j', k1, by rw [k2]; exact e4⟩
theorem BF_n {ce : Nat} (F0 : BF G D nb m s X ck (cnB D (lfS D nb m (ceX X ck) b0) b0 a0) b0 a0 s 0) (hce : ceX X ck = ce) (H : RG D nb m) : s = 1 + cntP (cnB D (lfS D nb m ce b0) b0 a0) m := by
  subst hce
  have cl := BF_cl F0 rfl H
  obtain ⟨⟨g1, g2, g3, g4⟩, f2, f3, f4, f5, f6, f7⟩ := F0
  have e : cntP (fun e => cnB D (lfS D nb m (ceX X ck) b0) b0 a0 e && inT G s D e) m = cntP (cnB D (lfS D nb m (ceX X ck) b0) b0 a0) m := by
    apply cntP_ex
    intro e he
    show (cnB D (lfS D nb m (ceX X ck) b0) b0 a0 e && inT G s D e) = cnB D (lfS D nb m (ceX X ck) b0) b0 a0 e
    by_cases q : cnB D (lfS D nb m (ceX X ck) b0) b0 a0 e = true
    · have t := cnB_t.mp q
      have t1 := andn_t.mp t.1
      obtain ⟨j, j1, j2⟩ := cl nb _ t1.1
      have gj := (g1.2.2.1 j j1).1
      have ge := ((RG_E H) e he).1
      obtain ⟨j', k1, k2, k3, k4⟩ := f6 j j1 (by rw [j2]; exact t1.2) e he (by omega)
      rw [q, Bool.true_and]
      exact inT_t.mpr ⟨j', k1, k2, k3⟩
    · have : cnB D (lfS D nb m (ceX X ck) b0) b0 a0 e = false := Bool.eq_false_iff.mpr q
      rw [this, Bool.false_and]
  have := g1.2.2.2
  rw [e] at this
  exact this
theorem BF_l3 {ce : Nat} {l3 : Int} (F0 : BF G D nb m s X ck cn b0 a0 s 0) (P : l3P G (ceX X ck) s l3) (hce : ceX X ck = ce) (H : RG D nb m) (hb : b0 < nb) : l3 = if dstF (nxD D m) nb ce nb (2 ^ b0) < 0 then -2 else dstF (nxD D m) nb ce nb (2 ^ b0) + 1 := by
  subst hce
  obtain ⟨⟨g1, g2, g3, g4⟩, f2, f3, f4, f5, f6, f7⟩ := F0
  have hE := RG_E H
  have z0 : 0 < s := g1.2.1.2.2
  have h160 : G 160 0 = 1 := by
    have := f2 0 z0
    have e : G 160 ((0 : Nat) : Int) = G 160 0 := rfl
    rw [e] at this
    omega
  have hlv : ∀ k, k < nb → nxD D m k < 2 ^ nb := fun k _ => nxD_lt H (by omega)
  have key : ∀ u (c : Nat), (rchI (nxD D m) nb 0 b0 u).testBit c = true → (∃ j : Nat, j < s ∧ (G 157 j).toNat = c ∧ G 160 j ≤ (u : Int) + 1) ∨ (∃ j : Nat, j < s ∧ (ceX X ck).testBit (G 157 j).toNat = true ∧ G 160 j ≤ (u : Int) + 1) := by
    intro u
    induction u with
    | zero =>
      intro c h
      have : b0 = c := tp_t.mp h
      left
      refine ⟨0, z0, ?_, ?_⟩
      · show (G 157 0).toNat = c
        rw [g2]
        omega
      · show G 160 0 ≤ _
        rw [h160]
        omega
    | succ u ih =>
      intro c h
      obtain h | ⟨e, e1, e2, e3, e4⟩ := rch_i hE h
      · obtain ⟨j, j1, j2, j3⟩ | ⟨j, j1, j2, j3⟩ := ih c h
        · exact Or.inl ⟨j, j1, j2, by omega⟩
        · exact Or.inr ⟨j, j1, j2, by omega⟩
      · obtain ⟨j, j1, j2, j3⟩ | ⟨j, j1, j2, j3⟩ := ih _ e2
        · by_cases q : (ceX X ck).testBit (G 157 j).toNat = true
          · exact Or.inr ⟨j, j1, q, by omega⟩
          · have gj := (g1.2.2.1 j j1).1
            have ge := (hE e e1).1
            obtain ⟨j', k1, k2, k3, k4⟩ := f6 j j1 q e e1 (by omega)
            exact Or.inl ⟨j', k1, by rw [k2]; exact e4, by omega⟩
        · exact Or.inr ⟨j, j1, j2, by omega⟩
  have sub : ∀ u (c : Nat), (rchI (nxD D m) nb (ceX X ck) b0 u).testBit c = true → (rchI (nxD D m) nb 0 b0 u).testBit c = true := by
    intro u
    induction u with
    | zero => intro c h; exact h
    | succ u ih =>
      intro c h
      obtain h | ⟨e, e1, e2, e3, e4⟩ := rch_i hE h
      · rw [rch_s, or_t]
        exact Or.inl (ih c h)
      · have := rch_e (start := b0) (shut := 0) hE e1 (ih _ e2) (by rw [Nat.zero_testBit]; simp)
        rw [e4] at this
        exact this
  obtain ⟨p1, p2⟩ | ⟨h0, p1, p2, p3, p4, p5⟩ := P
  · have hno : ∀ u, rchI (nxD D m) nb 0 b0 u &&& ceX X ck = 0 := by
      intro u
      apply Classical.byContradiction
      intro q
      obtain ⟨c, c1, c2⟩ := and_nz.mp q
      obtain ⟨j, j1, j2, j3⟩ | ⟨j, j1, j2, j3⟩ := key u c c1
      · exact p2 j j1 (by rw [j2]; exact c2)
      · exact p2 j j1 j2
    obtain ⟨d1, d2⟩ | ⟨k, d1, d2, d3, d4⟩ := dst_sp (nx := nxD D m) (nb := nb) (start := b0) (goals := ceX X ck)
    · rw [d1, if_pos (by decide)]
      exact p1
    · exact absurd (hno k) d3
  · have gh := (g1.2.2.1 h0 p1).1
    have hin : ∀ u, (G 160 h0 - 1).toNat ≤ u → ¬ rchI (nxD D m) nb 0 b0 u &&& ceX X ck = 0 := by
      intro u hu
      exact and_nz.mpr ⟨_, rch_le hu (sub _ _ (f5 h0 p1)), p2⟩
    have hmin : ∀ u : Nat, (u : Int) + 1 < G 160 h0 → rchI (nxD D m) nb 0 b0 u &&& ceX X ck = 0 := by
      intro u hu
      apply Classical.byContradiction
      intro q
      obtain ⟨c, c1, c2⟩ := and_nz.mp q
      have fin : ∀ j : Nat, j < s → (ceX X ck).testBit (G 157 j).toNat = true → G 160 j ≤ (u : Int) + 1 → False := by
        intro j j1 j2 j3
        by_cases w : j < h0
        · exact p5 j w j2
        · by_cases w2 : j = h0
          · subst w2; omega
          · have := f3 h0 j (by omega) j1
            omega
      obtain ⟨j, j1, j2, j3⟩ | ⟨j, j1, j2, j3⟩ := key u c c1
      · exact fin j j1 (by rw [j2]; exact c2) j3
      · exact fin j j1 j2 j3
    obtain ⟨d1, d2⟩ | ⟨k, d1, d2, d3, d4⟩ := dst_sp (nx := nxD D m) (nb := nb) (start := b0) (goals := ceX X ck)
    · exfalso
      by_cases w : (G 160 h0 - 1).toNat < nb
      · exact hin _ (Nat.le_refl _) (d2 _ w)
      · have t := hin (G 160 h0 - 1).toNat (Nat.le_refl _)
        rw [rch_st hlv hb _ (by omega)] at t
        exact t (d2 (nb - 1) (by omega))
    · rw [d2, if_neg (by omega), p3]
      have t1 : ¬ (k : Int) + 1 < G 160 h0 := fun w => d3 (hmin k w)
      have t2 : ¬ (G 160 h0 - 1).toNat < k := fun w => hin _ (Nat.le_refl _) (d4 _ w)
      omega
theorem sim_ofS (h : ofS G D) : sim G D := fun z j hz => h z j (by unfold scr at hz; omega) (by unfold scr at hz; omega)
theorem c279 (d : Nat) (B : BS D nb m) (e b ck : Nat) (he : e < m) (hb : b < nb) (hck : D 153 0 = ck) (hc : ck < 256) : ∃ (D1 G : Sto) (s : Nat) (l3 : Int), (ofN D1 D ∧ LN D1 nb m ∧ BS D1 nb m) ∧ (BF G D1 nb m s (xD D1 m e b) ck (cnB D1 (lfS D1 nb m (ceX (xD D1 m e b) ck) b) b (D1 162 e)) b (D1 162 e) s 0 ∧ l3P G (ceX (xD D1 m e b) ck) s l3) ∧ den (d + 5) 279 [(2, 129), (0, (e : Int)), (0, (b : Int))] (Sg xs n D) = some ((0, l3), Sg xs n G) := by
  obtain ⟨D1, a1, a2, a3⟩ := c272 (xs := xs) (n := n) d B
  have B1 := m2_BS (ofN_m2 a1) B
  have hX := (xD_s B1 he hb).1
  obtain ⟨G1, b1, b2, b3, b4⟩ := c275 (xs := xs) (n := n) (G := D1) (d + 1) B1 a2 (fun _ _ _ _ => rfl) e b ck he hb
  let G2 := up G1 160 0 1
  have o : ∀ z j : Int, ¬ (z = 160 ∨ z = 161) → G2 z j = G1 z j := fun z j hz => up_ne (by omega)
  have I1 := SI_1 (ck := ck) B1 he hb b1 b2 ⟨b3.1, b3.2.1, b3.2.2.1⟩ (CN_B (m := m) (lf := lfS D1 nb m (ceX (xD D1 m e b) ck) b) (b0 := (b : Int)) (a0 := D1 162 e))
  have I2 := SI_u I1 o
  have g160 : G2 160 0 = 1 := up_at
  have g157 : G2 157 0 = b := by rw [o 157 0 (by decide)]; exact b3.1
  have F0 : BF G2 D1 nb m 1 (xD D1 m e b) ck (cnB D1 (lfS D1 nb m (ceX (xD D1 m e b) ck) b) b (D1 162 e)) b (D1 162 e) 0 0 := by
    have j0 : ∀ j : Nat, j < 1 → (j : Int) = 0 := fun j hj => by omega
    refine ⟨⟨I2, g157, by rw [o 159 0 (by decide)]; exact b3.2.2.1, by omega⟩, fun j hj => ?_, fun h j h1 h2 => by omega, fun _ j hj => ?_, fun j hj => ?_, fun h hh => by omega, fun h hh => by omega⟩
    · rw [j0 j hj, g160]; omega
    · rw [j0 j hj]
      show G2 160 0 ≤ G2 160 0 + 1
      omega
    · rw [j0 j hj, g160, g157]
      show (2 ^ b).testBit ((b : Int)).toNat = true
      rw [tp_t]
      omega
  obtain ⟨G', s', l3', c1, c2, c3⟩ := k279 (xs := xs) (n := n) d B1 a2 CN_B hX hc hb 17 0 G2 1 (-2) (some (0, (e : Int))) (some (0, (b : Int))) (by omega) F0 (Or.inl ⟨rfl, fun h hh => by omega⟩)
  refine ⟨D1, G', s', l3', ⟨a1, a2, B1⟩, ⟨c1, c2⟩, ?_⟩
  rw [n279, h279_0, a3, cK9]
  show Rn (d + 4) 279 4 [some (2, 129), some (0, (e : Int)), some (0, (b : Int)), none, none, none, none] [] (Sg xs n D1) = _
  rw [h279_4, ofN_f a1 153 (by decide), hck, b4, cK9]
  show Rn (d + 4) 279 16 [some (2, 129), some (0, (e : Int)), some (0, (b : Int)), none, none, none, none] [] (Sg xs n G1) = _
  rw [h279_16]
  exact c3
theorem sN_m {D1 : Sto} (h : m2 D1 D) (b : Int) : sN D1 b = sN D b := by
  unfold sN
  rw [mrk_sg h.1 h.2.1 h.2.2]
theorem xD_m {D1 : Sto} (h : m2 D1 D) (e b : Nat) : xD D1 m e b = xD D m e b := by
  unfold xD
  rw [sN_m h, mrk_mk h.1 h.2.1 h.2.2]
theorem nxD_m {D1 : Sto} (h : m2 D1 D) : nxD D1 m = nxD D m := by
  unfold nxD
  rw [h.1.2.2.1, h.1.2.2.2.1]
theorem tk_BS (K : RelK D nb m) (X : RelX D nb m) : BS (tkS D) nb m := BS_of (RelK_sim K sim_tk) (RelX_N (simN_of sim_tk) (RelK_8 K) X)
theorem tk_m2 : m2 (tkS D) D := by
  have f : ∀ z : Int, ¬ z = 55 → ¬ z = 56 → tkS D z = D z := fun z h1 h2 => tk_f h1 h2
  exact ⟨⟨f 131 (by decide) (by decide), f 135 (by decide) (by decide), f 136 (by decide) (by decide), f 137 (by decide) (by decide), f 154 (by decide) (by decide), f 156 (by decide) (by decide), by rw [f 129 (by decide) (by decide)]⟩, by rw [f 129 (by decide) (by decide)], by rw [f 129 (by decide) (by decide)]⟩
theorem m2_0 {v : Int} : m2 (up D 129 0 v) D := ⟨mrk_v (by decide), up_ni (by decide), up_ni (by decide)⟩
theorem m2_t {F E : Sto} (h1 : m2 G F) (h2 : m2 F E) : m2 G E := ⟨mrk_2 h1.1 h2.1, h1.2.1.trans h2.2.1, h1.2.2.trans h2.2.2⟩
/-- whether a slip looks right: class and reference -/
theorem tk_lr (K : RelK D nb m) (X : RelX D nb m) {e b : Nat} (he : e < m) (hb : b < nb) : mkD (tkS D) e b = tkS D 55 b ↔ xD D m e b = 0 := by
  obtain ⟨g, hB, hS, hR⟩ := tk_rel K
  rw [tk_mk K he hb, hS b hb, ← (xD_s (tk_BS K X) he hb).2.2, xD_m tk_m2]
theorem NX_tk (K : RelK D nb m) (X : RelX D nb m) : NX (tkS D) nb (nxD D m) := by
  have := NX_of (RelK_sim K sim_tk) (RelX_N (simN_of sim_tk) (RelK_8 K) X)
  rw [nxD_m tk_m2] at this
  exact this
theorem ts_caught (R : Rel D) (d : Nat) (e b : Int) : tws xs n (d + 60) 0 153 278 [(0, e), (0, b)] D := by
  have R0 := R
  obtain ⟨nb, m, K, X⟩ := R
  obtain ⟨G, hB, hS, h46, h45, hRB⟩ := RelK_G K
  have h8 := G.1.2.1
  obtain ⟨ck, c1, c2, c3, c4⟩ := ck0 X.2.2.2.1 h8
  by_cases h : isS D nb m e b
  · obtain ⟨G', hB', hS', hR'⟩ := tk_rel K
    have h' := h
    obtain ⟨⟨e0, e1⟩, ⟨b0, b1⟩, _⟩ := h
    have ee : (e.toNat : Int) = e := Int.toNat_of_nonneg e0
    have eb : (b.toNat : Int) = b := Int.toNat_of_nonneg b0
    have B0 : BS (up (tkS D) 129 0 0) nb m := m2_BS m2_0 (tk_BS K X)
    obtain ⟨D1, a1, a2, a3⟩ := c272 (xs := xs) (n := n) (d + 55) B0
    have B1 := m2_BS (ofN_m2 a1) B0
    have mm : m2 D1 D := m2_t (ofN_m2 a1) (m2_t m2_0 tk_m2)
    obtain ⟨G2, b2, b3⟩ := c277 (xs := xs) (n := n) (G := D1) (d + 29) B1 a2 (fun _ _ _ _ => rfl) e.toNat b.toNat ck (by omega) (by omega) c4
    rw [ee, eb] at b3
    have hd1 : D1 153 0 = ck := by rw [a1 153 0 (by decide), up_ne (by decide), tk_ne (by decide) (by decide)]; exact c2
    have hcl := c102 (xs := xs) (n := n) (D := tkS D) (d + 54) e.toNat b.toNat ck G'.1 (NX_tk K X) (by omega) (by omega) c3
    have hlr := tk_lr K X (e := e.toNat) (b := b.toNat) (by omega) (by omega)
    rw [ee, eb] at hcl hlr
    have ev : (if mkD (tkS D) e b = tkS D 55 b then -2 else if lngF (nxD D m) nb b.toNat nb ck < 0 then -2 else w32 (lngF (nxD D m) nb b.toNat nb ck + 1)) = caV D1 nb m ck e.toNat b.toNat := by
      unfold caV
      rw [xD_m mm, nxD_m mm]
      unfold ceX LvI
      by_cases q : mkD (tkS D) e b = tkS D 55 b
      · rw [if_pos q, if_pos (hlr.mp q)]
        have := Lv_n (nx := nxD D m) (ce := 0) (nb := nb) (b := b.toNat) (Nat.two_pow_pos nb) (by omega) (fun k => by rw [frc_0, Nat.zero_testBit]; simp)
        unfold LvI at this
        rw [this]
      · rw [if_neg q, if_neg (fun w => q (hlr.mpr w))]
        obtain w | ⟨k, w1, w2, w3⟩ := Lv_sp (nx := nxD D m) (ce := ck) c4 (show b.toNat < nb by omega)
        · unfold LvI at w
          by_cases q2 : lngF (nxD D m) nb b.toNat nb ck < 0
          · rw [if_pos q2, if_pos q2]
          · rw [if_neg q2] at w
            omega
        · unfold LvI at w2
          by_cases q2 : lngF (nxD D m) nb b.toNat nb ck < 0
          · rw [if_pos q2, if_pos q2]
          · rw [if_neg q2] at w2
            rw [if_neg q2, if_neg q2, w32_idP (by omega) (by omega)]
    refine tws_sim R0 (D1 := tkS D) (D2 := G2) (a := caV D1 nb m ck e.toNat b.toNat) ?_ ?_ (sim_t (sim_ofS b2) (sim_t (sim_ofN a1) (sim_t sim_0 sim_tk)))
    · rw [n153, h153_0, cS (d + 57) e b G h', cK0, pR0, h153_12, if_pos (by decide), c96]
      show Rn (d + 59) 153 31 [some (2, 1), some (0, e), some (0, b)] [] (Sg xs n (tkS D)) = _
      rw [h153_31, tk_ne (by decide) (by decide), c1, hcl, cK0, pR0, h153_47, ev]
    · rw [n278, h278_0, a3, cK9]
      show Rn (d + 59) 278 9 [some (2, 129), some (0, e), some (0, b)] [] (Sg xs n D1) = _
      rw [h278_9, rS (d + 57) e b B1.1.1 ((isS_f (by rw [mm.1.2.2.2.1])).mpr h'), cK0, pR0, h278_15, if_neg (by decide), hd1, b3, cK0, pR0, h278_30, h278_34]
  · have B0 : BS (up D 129 0 0) nb m := m2_BS m2_0 (BS_of K X)
    obtain ⟨D1, a1, a2, a3⟩ := c272 (xs := xs) (n := n) (d + 55) B0
    have B1 := m2_BS (ofN_m2 a1) B0
    have mm : m2 D1 D := m2_t (ofN_m2 a1) m2_0
    refine tws_sim R0 (D1 := D) (D2 := D1) (a := -1) ?_ ?_ (sim_t (sim_ofN a1) sim_0)
    · rw [n153, h153_0, cSn (d + 57) e b G h, cK0, pR0, h153_12, if_neg (by decide)]
    · rw [n278, h278_0, a3, cK9]
      show Rn (d + 59) 278 9 [some (2, 129), some (0, e), some (0, b)] [] (Sg xs n D1) = _
      rw [h278_9, rSn (d + 57) e b B1.1.1 (fun w => h ((isS_f (by rw [mm.1.2.2.2.1])).mp w)), cK0, pR0, h278_15, if_pos rfl, h278_34]
theorem ts_soonest (R : Rel D) (d : Nat) (e b : Int) : tws xs n (d + 60) 0 154 280 [(0, e), (0, b)] D := by
  have R0 := R
  obtain ⟨nb, m, K, X⟩ := R
  obtain ⟨G, hB, hS, h46, h45, hRB⟩ := RelK_G K
  have h8 := G.1.2.1
  obtain ⟨ck, c1, c2, c3, c4⟩ := ck0 X.2.2.2.1 h8
  by_cases h : isS D nb m e b
  · obtain ⟨G', hB', hS', hR'⟩ := tk_rel K
    have h' := h
    obtain ⟨⟨e0, e1⟩, ⟨b0, b1⟩, _⟩ := h
    have ee : (e.toNat : Int) = e := Int.toNat_of_nonneg e0
    have eb : (b.toNat : Int) = b := Int.toNat_of_nonneg b0
    have B0 : BS (up (tkS D) 129 0 0) nb m := m2_BS m2_0 (tk_BS K X)
    have mm0 : m2 (up (tkS D) 129 0 0) D := m2_t m2_0 tk_m2
    obtain ⟨D1, G2, s, l3, ⟨a1, a2, a3⟩, ⟨a4, a5⟩, a6⟩ := c279 (xs := xs) (n := n) (d + 54) B0 e.toNat b.toNat ck (by omega) (by omega) (by rw [up_ne (by decide), tk_ne (by decide) (by decide)]; exact c2) c3
    rw [ee, eb] at a6
    have mm : m2 D1 D := m2_t (ofN_m2 a1) mm0
    have hl := BF_l3 a4 a5 (by rw [xD_m mm]) a3.1.1 (by omega)
    rw [nxD_m mm] at hl
    have hcl := c103 (xs := xs) (n := n) (D := tkS D) (d + 54) e.toNat b.toNat ck G'.1 (NX_tk K X) (by omega) (by omega) c3
    have hlr := tk_lr K X (e := e.toNat) (b := b.toNat) (by omega) (by omega)
    rw [ee, eb] at hcl hlr
    have dz : ∀ g, dstF (nxD D m) nb g nb (2 ^ b.toNat) = -2 ∨ (0 ≤ dstF (nxD D m) nb g nb (2 ^ b.toNat) ∧ dstF (nxD D m) nb g nb (2 ^ b.toNat) < 8) := by
      intro g
      obtain ⟨d1, d2⟩ | ⟨k, d1, d2, d3, d4⟩ := dst_sp (nx := nxD D m) (nb := nb) (start := b.toNat) (goals := g)
      · exact Or.inl d1
      · right; omega
    have ev : (if mkD (tkS D) e b = tkS D 55 b then -2 else if dstF (nxD D m) nb ck nb (2 ^ b.toNat) < 0 then -2 else w32 (dstF (nxD D m) nb ck nb (2 ^ b.toNat) + 1)) = l3 := by
      rw [hl]
      unfold ceX
      by_cases q : mkD (tkS D) e b = tkS D 55 b
      · rw [if_pos q, if_pos (hlr.mp q)]
        obtain ⟨d1, d2⟩ | ⟨k, d1, d2, d3, d4⟩ := dst_sp (nx := nxD D m) (nb := nb) (start := b.toNat) (goals := 0)
        · rw [d1]; rfl
        · exact absurd (Nat.and_zero _) d3
      · rw [if_neg q, if_neg (fun w => q (hlr.mpr w))]
        obtain w | w := dz ck
        · rw [w]; rfl
        · rw [if_neg (by omega), if_neg (by omega), w32_idP (by omega) (by omega)]
    refine tws_sim R0 (D1 := tkS D) (D2 := G2) (a := l3) ?_ ?_ (sim_t (sim_ofS a4.1.1.1) (sim_t (sim_ofN a1) (sim_t sim_0 sim_tk)))
    · rw [n154, h154_0, cS (d + 57) e b G h', cK0, pR0, h154_12, if_pos (by decide), c96]
      show Rn (d + 59) 154 31 [some (2, 1), some (0, e), some (0, b)] [] (Sg xs n (tkS D)) = _
      rw [h154_31, tk_ne (by decide) (by decide), c1, hcl, cK0, pR0, h154_47, ev]
    · rw [n280, h280_0, rS (d + 57) e b B0.1.1 ((isS_f (by rw [mm0.1.2.2.2.1])).mpr h'), cK0, pR0, h280_11, if_neg (by decide), a6, cK0, pR0, h280_20, h280_24]
  · refine tws_sim R0 (D1 := D) (D2 := up D 129 0 0) (a := -1) ?_ ?_ sim_0
    · rw [n154, h154_0, cSn (d + 57) e b G h, cK0, pR0, h154_12, if_neg (by decide)]
    · rw [n280, h280_0, rSn (d + 57) e b (RG_0 G.2.1) (fun w => h ((isS_f (by funext j; rw [up_ne (by decide)])).mp w)), cK0, pR0, h280_11, if_pos rfl, h280_24]
end S73
