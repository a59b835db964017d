/-! Within how many steps one is caught: the reference's search -/
def lgOK (G : Sto) (s : Nat) (nx : Nat → Nat) (nb ce : Nat) : Prop := ∀ j : Nat, j < s → G 161 j = 0 ∨ G 161 j = -1 ∨ G 161 j = LvI nx nb ce (G 157 j).toNat
section S71
variable {xs : Int → Int} {n : Int × Int} {D G : Sto} {nb m s X ck : Nat} {cn al : Nat → Bool} {b0 a0 : Int}
theorem SI_u {G' : Sto} (I : SI G D nb m s X ck cn) (h : ∀ z j : Int, ¬ (z = 160 ∨ z = 161) → G' z j = G z j) : SI G' D nb m s X ck cn := by
  obtain ⟨i1, ⟨i2, i3, i4⟩, i5, i6⟩ := I
  have e157 : G' 157 = G 157 := funext (fun j => h 157 j (by decide))
  have e159 : G' 159 = G 159 := funext (fun j => h 159 j (by decide))
  refine ⟨fun z j h1 h2 => ?_, ⟨?_, ?_, i4⟩, fun j hj => ?_, ?_⟩
  · rw [h z j (by omega)]
    exact i1 z j h1 h2
  · rw [h 129 55 (by decide)]; exact i2
  · rw [h 129 56 (by decide)]; exact i3
  · rw [e157, h 158 j (by decide)]
    exact i5 j hj
  · unfold inT
    rw [e157, e159]
    exact i6
theorem c321n (d : Nat) (a b : Int) : den (d + 1) 321 [(0, a), (0, b)] (Sg xs n G) = some ((0, max a b), Sg xs n G) := c321 d a b
theorem k276 (B : BS D nb m) (L : LN D nb m) (C : CN D m b0 a0 al cn) (hal : ∀ e : Nat, e < m → al e = true) (hX : X < 256) (hc : ck < 256) (hce : ceX X ck < 2 ^ nb) : ∀ (r d : Nat) (G : Sto) (s k : Nat), SI G D nb m s X ck cn → (G 157 0 = b0 ∧ G 159 0 = a0) → lgOK G s (nxD D m) nb (ceX X ck) → k < s → (∀ j : Nat, j < s → G 161 j = -1 → NR (nxD D m) nb (ceX X ck) (G 157 j).toNat (G 157 k).toNat) → 17 ≤ cntP (fun j => decide (G 161 j = -1)) s + r → ∃ (G' : Sto) (s' : Nat), SI G' D nb m s' X ck cn ∧ Ex2 G G' s s' ∧ lgOK G' s' (nxD D m) nb (ceX X ck) ∧ den (d + r + 5) 276 [(2, 129), (0, (k : Int))] (Sg xs n G) = some ((0, LvI (nxD D m) nb (ceX X ck) (G 157 k).toNat), Sg xs n G') := by
  have H := B.1.1
  have h8 := H.2.1
  have h16 := H.2.2.2.1
  have hE := RG_E H
  intro r
  induction r with
  | zero =>
    intro d G s k I hb lg hk hp hr
    have hs := SI_le I h16
    obtain ⟨g1, g2⟩ := I.2.2.1 k hk
    have hin : G 161 k = -1 := by
      apply Classical.byContradiction
      intro q
      have t1 := cntP_s (p := fun j => decide (G 161 j = -1)) (q := fun _ => true) s (fun i _ _ => rfl) ⟨k, hk, rfl, by simp [q]⟩
      have t2 := cntP_le (fun _ => true) s
      omega
    refine ⟨G, s, I, Ex2_r, lg, ?_⟩
    rw [n276, h276_0, c271 (d + 1) B I hc hk, cK0, pR0, h276_5, bB_if, hin, h276_34, if_pos (inb_t (by omega) (by omega)), if_pos rfl]
    have hn := NR_self (hp k hk hin)
    by_cases c1 : (ceX X ck).testBit (G 157 k).toNat = true
    · exact absurd c1 (hn 0)
    · rw [if_neg c1, Lv_n hce (by omega) hn]
  | succ r ih =>
    intro d G s k I hb lg hk hp hr
    have hs := SI_le I h16
    obtain ⟨g1, g2⟩ := I.2.2.1 k hk
    have eg : ((G 157 k).toNat : Int) = G 157 k := Int.toNat_of_nonneg g1.1
    have hbn : (G 157 k).toNat < nb := by omega
    have hcb := cntE_b (D 136) (G 157 k) m
    obtain ⟨q1, q2, q3, q4⟩ := L.1 (G 157 k).toNat hbn
    rw [eg] at q3
    have f165 : G 165 (G 157 k) = cntE (D 136) (G 157 k) m := by rw [ofS_z I.1 165 _ (by decide) (by decide)]; exact q3
    rw [show d + (r + 1) + 5 = (d + r + 5) + 1 by omega, n276, h276_0, c271 (d + r + 2) B I hc hk, cK0, pR0, h276_5, bB_if, h276_34, inb_t (show (0 : Int) ≤ (k : Int) by omega) (show (k : Int) < 600 by omega), if_pos rfl, if_pos rfl, if_pos rfl, if_pos rfl, if_pos rfl, if_pos (inb_t g1.1 (by omega)), f165]
    by_cases c1 : (ceX X ck).testBit (G 157 k).toNat = true
    · refine ⟨G, s, I, Ex2_r, lg, ?_⟩
      rw [if_pos c1, Lv_1 hce hbn c1]
    rw [if_neg c1]
    by_cases c2 : G 161 k = -1
    · refine ⟨G, s, I, Ex2_r, lg, ?_⟩
      rw [if_pos c2, Lv_n hce hbn (NR_self (hp k hk c2))]
    rw [if_neg c2]
    by_cases c3 : cntE (D 136) (G 157 k) m = 0
    · refine ⟨G, s, I, Ex2_r, lg, ?_⟩
      rw [if_neg (fun w => w c3)]
      have : ∀ e : Nat, e < m → ¬ D 136 e = ((G 157 k).toNat : Int) := fun e he w => by
        rw [eg] at w
        have := cnt_pos (f := D 136) (v := G 157 k) (k := e) m he w
        omega
      rw [Lv_2 hE hce hbn c1 this]
    rw [if_pos c3]
    by_cases c4 : G 161 k = 0
    rotate_left
    · refine ⟨G, s, I, Ex2_r, lg, ?_⟩
      rw [if_neg c4]
      obtain w | w | w := lg k hk
      · exact absurd w c4
      · exact absurd w c2
      · rw [w]
    rw [if_pos c4]
    let G1 := up G 161 k (-1)
    have o1 : ∀ z j : Int, ¬ (z = 160 ∨ z = 161) → G1 z j = G z j := fun z j hz => up_ne (by omega)
    have I1 : SI G1 D nb m s X ck cn := SI_u I o1
    have k1 : G1 161 k = -1 := up_at
    have k2 : ∀ j : Nat, ¬ j = k → G1 161 j = G 161 j := fun j hj => up_ni (by omega)
    have k3 : ∀ (z : Int) (j : Nat), 157 ≤ z → z ≤ 160 → G1 z j = G z j := fun z j h1 h2 => up_ne (by omega)
    have lg1 : lgOK G1 s (nxD D m) nb (ceX X ck) := by
      intro j hj
      by_cases e : j = k
      · subst e; exact Or.inr (Or.inl k1)
      · rw [k2 j e, k3 157 j (by decide) (by decide)]
        exact lg j hj
    have cP : cntP (fun j => decide (G1 161 j = -1)) s = cntP (fun j => decide (G 161 j = -1)) s + 1 := by
      apply cntP_one (i0 := k) s hk
      · intro i hi hne
        show decide (G 161 i = -1) = decide (G1 161 i = -1)
        rw [k2 i hne]
      · show decide (G 161 k = -1) = false
        exact decide_eq_false c2
      · show decide (G1 161 k = -1) = true
        exact decide_eq_true k1
    have inner : ∀ q (i : Nat) (Gi : Sto) (si : Nat) (most : Int) , ((i + q : Nat) : Int) = cntE (D 136) (G 157 k) m → SI Gi D nb m si X ck cn → Ex2 G1 Gi s si → lgOK Gi si (nxD D m) nb (ceX X ck) → 0 ≤ most → most ≤ 1000 → (∀ i' : Nat, i' < i → 1 ≤ LvI (nxD D m) nb (ceX X ck) (D 137 (nthE (D 136) (fun z => z) (G 157 k) m m i')).toNat ∧ LvI (nxD D m) nb (ceX X ck) (D 137 (nthE (D 136) (fun z => z) (G 157 k) m m i')).toNat ≤ most) → ((i = 0 ∧ most = 0) ∨ ∃ i' : Nat, i' < i ∧ LvI (nxD D m) nb (ceX X ck) (D 137 (nthE (D 136) (fun z => z) (G 157 k) m m i')).toNat = most) → ∃ (G' : Sto) (s' : Nat) (most' i2 : Int), SI G' D nb m s' X ck cn ∧ Ex2 G1 G' s s' ∧ lgOK G' s' (nxD D m) nb (ceX X ck) ∧ ((most' = -2 ∧ LvI (nxD D m) nb (ceX X ck) (G 157 k).toNat = -2) ∨ (1 ≤ most' ∧ most' ≤ 1000 ∧ LvI (nxD D m) nb (ceX X ck) (G 157 k).toNat = most' + 1)) ∧ Rn (d + r + 5) 276 64 [some (2, 129), some (0, (k : Int)), some (0, most), some (0, (i : Int)), none] [] (Sg xs n Gi) = Rn (d + r + 5) 276 118 [some (2, 129), some (0, (k : Int)), some (0, most'), some (0, i2), none] [] (Sg xs n G') := by
      intro q
      induction q with
      | zero =>
        intro i Gi si most hi Ii Ei lgi m0 m1 hA hB2
        have e1 : Gi 157 k = G 157 k := by rw [Ei.2.1 157 k (by decide) (by decide) hk]; exact k3 157 k (by decide) (by decide)
        have e2 : Gi 165 (G 157 k) = cntE (D 136) (G 157 k) m := by rw [ofS_z Ii.1 165 _ (by decide) (by decide)]; exact q3
        obtain ⟨w1', w2'⟩ | ⟨i', w1', w2'⟩ := hB2
        · omega
        · have hm1 : 1 ≤ most := by
            have := hA i' w1'
            omega
          refine ⟨Gi, si, most, (i : Int), Ii, Ei, lgi, Or.inr ⟨hm1, m1, ?_⟩, ?_⟩
          · apply Lv_4 hE hce hbn c1 hm1
            · intro e he hF
              rw [eg] at hF
              obtain ⟨j, j1, j2⟩ := nth_all (f := D 136) (g := fun z => z) (v := G 157 k) (m := m) he hF
              have := hA j (by omega)
              rw [j2] at this
              exact this
            · obtain ⟨e, a1, a2, a3⟩ := nth_ok (f := D 136) (g := fun z => z) (v := G 157 k) (m := m) (i := (i' : Int)) (by omega) (by omega)
              refine ⟨e, a1, by rw [eg]; exact a2, ?_⟩
              rw [a3] at w2'
              exact w2'
          · rw [h276_64, e1, e2, inb_t (show (0 : Int) ≤ (k : Int) by omega) (show (k : Int) < 600 by omega), if_pos rfl, if_pos (inb_t g1.1 (by omega)), if_pos (by omega)]
      | succ q ihq =>
        intro i Gi si most hi Ii Ei lgi m0 m1 hA hB2
        have hsi := SI_le Ii h16
        have hki : k < si := Nat.lt_of_lt_of_le hk Ei.1
        have e1 : Gi 157 k = G 157 k := by rw [Ei.2.1 157 k (by decide) (by decide) hk]; exact k3 157 k (by decide) (by decide)
        have e0 : Gi 157 0 = b0 ∧ Gi 159 0 = a0 := by
          have z0 : 0 < s := by have := I.2.1.2.2; omega
          constructor
          · have := Ei.2.1 157 0 (by decide) (by decide) z0
            rw [show ((0 : Nat) : Int) = 0 from rfl] at this
            rw [this, o1 157 0 (by decide)]
            exact hb.1
          · have := Ei.2.1 159 0 (by decide) (by decide) z0
            rw [show ((0 : Nat) : Int) = 0 from rfl] at this
            rw [this, o1 159 0 (by decide)]
            exact hb.2
        have e2 : Gi 165 (G 157 k) = cntE (D 136) (G 157 k) m := by rw [ofS_z Ii.1 165 _ (by decide) (by decide)]; exact q3
        obtain ⟨e, a1, a2, a3⟩ := nth_ok (f := D 136) (g := fun z => z) (v := G 157 k) (m := m) (i := (i : Int)) (by omega) (by omega)
        have a3' : nthE (D 136) (fun z => z) (G 157 k) m m i = e := a3
        have ft := (hE e a1).2
        obtain ⟨G2, s2, j, ⟨I2, E2⟩, ⟨j1, j2, j3⟩, j4⟩ := c274 (xs := xs) (n := n) (d + r + 2) B L Ii C hX e0.1 e0.2 hki (i := i) (by rw [e1]; omega) a1 (by rw [e1]; exact a2) (by rw [e1]; exact a3') (hal e a1)
        have X2 : Ex2 G1 G2 s s2 := Ex2_t Ei (Ex2_of E2)
        have lg2 : lgOK G2 s2 (nxD D m) nb (ceX X ck) := by
          intro j' hj'
          by_cases q : j' < si
          · rw [E2.2.1 161 j' (by decide) (by decide) q, E2.2.1 157 j' (by decide) (by decide) q]
            exact lgi j' q
          · exact Or.inl (E2.2.2 j' (by omega) hj').2
        have e5 : G2 157 0 = b0 ∧ G2 159 0 = a0 := by
          have z0 : 0 < si := by omega
          constructor
          · have := E2.2.1 157 0 (by decide) (by decide) z0
            rw [show ((0 : Nat) : Int) = 0 from rfl] at this
            rw [this]; exact e0.1
          · have := E2.2.1 159 0 (by decide) (by decide) z0
            rw [show ((0 : Nat) : Int) = 0 from rfl] at this
            rw [this]; exact e0.2
        have ej : (G2 157 j).toNat = (D 137 e).toNat := by rw [j2]
        obtain ⟨G3, s3, I3, E3, lg3, v3⟩ := ih d G2 s2 j I2 e5 lg2 j1 (by
          intro j' hj' hpr
          have hj2 : j' < s := by
            apply Classical.byContradiction
            intro w
            exact X2.2.2.2 j' (by omega) hj' hpr
          rw [X2.2.2.1 j' hj2] at hpr
          rw [X2.2.1 157 j' (by decide) (by decide) hj2, k3 157 j' (by decide) (by decide), ej]
          have n1 : NR (nxD D m) nb (ceX X ck) (G 157 k).toNat (D 137 e).toNat := NR_e hE hbn c1 a1 (by rw [eg]; exact a2)
          by_cases w : j' = k
          · rw [w]; exact n1
          · rw [k2 j' w] at hpr
            exact NR_t (hp j' hj2 hpr) n1) (by
          rw [Ex2_c X2, cP]
          omega)
        have X3 : Ex2 G1 G3 s s3 := Ex2_t X2 E3
        have hk3 : k < s3 := Nat.lt_of_lt_of_le hk X3.1
        have e6 : G3 157 k = G 157 k := by rw [X3.2.1 157 k (by decide) (by decide) hk]; exact k3 157 k (by decide) (by decide)
        have e7 : G3 165 (G 157 k) = cntE (D 136) (G 157 k) m := by rw [ofS_z I3.1 165 _ (by decide) (by decide)]; exact q3
        rw [ej] at v3
        have step : Rn (d + r + 5) 276 64 [some (2, 129), some (0, (k : Int)), some (0, most), some (0, (i : Int)), none] [] (Sg xs n Gi) = Rn (d + r + 5) 276 93 [some (2, 129), some (0, (k : Int)), some (0, most), some (0, (i : Int)), none] [(0, LvI (nxD D m) nb (ceX X ck) (D 137 e).toNat)] (Sg xs n G3) := by
          rw [h276_64, e1, e2, inb_t (show (0 : Int) ≤ (k : Int) by omega) (show (k : Int) < 600 by omega), if_pos rfl, if_pos (inb_t g1.1 (by omega)), if_neg (by omega), if_neg (by omega), j4, cK0, pR0, h276_90, v3, cK0, pR0]
        rw [step, h276_93]
        obtain w | ⟨w, w'⟩ := Lv_r (nx := nxD D m) hce (show (D 137 e).toNat < nb by omega)
        · refine ⟨G3, s3, -2, ((i + 1 : Nat) : Int), I3, X3, lg3, Or.inl ⟨rfl, Lv_3 hE hce hbn c1 a1 (by rw [eg]; exact a2) w⟩, ?_⟩
          rw [w, if_neg (by decide), h276_111, w1 (by omega), h276_64, e6, e7, inb_t (show (0 : Int) ≤ (k : Int) by omega) (show (k : Int) < 600 by omega), if_pos rfl, if_pos (inb_t g1.1 (by omega))]
          by_cases q5 : ((i + 1 : Nat) : Int) < cntE (D 136) (G 157 k) m
          · rw [if_neg (fun t => t q5), if_pos (by decide)]
          · rw [if_pos q5]
        · rw [if_pos (by omega), c321n, cK0, pR0, h276_111, w1 (by omega)]
          refine ihq (i + 1) G3 s3 (max most (LvI (nxD D m) nb (ceX X ck) (D 137 e).toNat)) (by omega) I3 X3 lg3 (by omega) (by omega) ?_ ?_
          · intro i' hi'
            by_cases q5 : i' = i
            · rw [q5, a3']
              omega
            · have := hA i' (by omega)
              omega
          · right
            by_cases q5 : most ≤ LvI (nxD D m) nb (ceX X ck) (D 137 e).toNat
            · refine ⟨i, by omega, ?_⟩
              rw [a3']
              omega
            · obtain ⟨w1', w2'⟩ | ⟨i', w1', w2'⟩ := hB2
              · omega
              · exact ⟨i', by omega, by omega⟩
    obtain ⟨G', s', most', i2, I', E', lg', hv, hrun⟩ := inner (cntE (D 136) (G 157 k) m).toNat 0 G1 s 0 (by omega) I1 Ex2_r lg1 (by omega) (by omega) (fun i' hi' => by omega) (Or.inl ⟨rfl, rfl⟩)
    have hlv : ¬ LvI (nxD D m) nb (ceX X ck) (G 157 k).toNat = -1 := by
      obtain w | w := Lv_r (nx := nxD D m) hce hbn <;> omega
    have e1 : G' 157 k = G 157 k := by rw [E'.2.1 157 k (by decide) (by decide) hk]; exact k3 157 k (by decide) (by decide)
    refine ⟨up G' 161 k (LvI (nxD D m) nb (ceX X ck) (G 157 k).toNat), s', SI_u I' (fun z j hz => up_ne (by omega)), ⟨E'.1, ?_, ?_, ?_⟩, ?_, ?_⟩
    · intro z j h1 h2 h3
      rw [up_ne (by omega), E'.2.1 z j h1 h2 h3]
      exact k3 z j h1 h2
    · intro j hj
      by_cases q : j = k
      · rw [q, up_at]
        constructor
        · intro w; exact absurd w hlv
        · intro w; exact absurd w c2
      · rw [up_ni (by omega), E'.2.2.1 j hj, k2 j q]
    · intro j h1 h2
      rw [up_ni (by omega)]
      exact E'.2.2.2 j h1 h2
    · intro j hj
      by_cases q : j = k
      · rw [q, up_at, up_ne (by decide), e1]
        exact Or.inr (Or.inr rfl)
      · rw [up_ni (by omega), up_ne (by decide)]
        exact lg' j hj
    · show Rn (d + r + 5) 276 64 [some (2, 129), some (0, (k : Int)), some (0, 0), some (0, 0), none] [] (Sg xs n G1) = _
      refine hrun.trans ?_
      rw [h276_118]
      simp only [h276_135, inb_t (show (0 : Int) ≤ (k : Int) by omega) (show (k : Int) < 600 by omega), if_true, up_at]
      obtain ⟨w1', w2'⟩ | ⟨w1', w2', w3'⟩ := hv
      · rw [w1', if_neg (by decide), w2']
      · rw [if_pos (by omega), w32_idP (by omega) (by omega), w3']
/-- the one edge that stands for a state: the first -/
def cnA (D : Sto) (b0 a0 : Int) (e : Nat) : Bool := !(decide (D 137 e = b0) && decide (D 162 e = a0)) && !exB (fun k => decide (D 137 k = D 137 e) && decide (D 162 k = D 162 e)) e
theorem first_ex {p : Nat → Prop} : ∀ m (e : Nat), e < m → p e → ∃ e0, e0 ≤ e ∧ p e0 ∧ ∀ k, k < e0 → ¬ p k := by
  intro m
  induction m with
  | zero => intro e h; omega
  | succ m ih =>
    intro e h hp
    by_cases q : ∃ k, k < e ∧ p k
    · obtain ⟨k, k1, k2⟩ := q
      obtain ⟨e0, a1, a2, a3⟩ := ih k (by omega) k2
      exact ⟨e0, by omega, a2, a3⟩
    · exact ⟨e, Nat.le_refl e, hp, fun k hk w => q ⟨k, hk, w⟩⟩
theorem CN_A : CN D m b0 a0 (fun _ => true) (cnA D b0 a0) := by
  have t : ∀ e, cnA D b0 a0 e = true ↔ ¬ (D 137 e = b0 ∧ D 162 e = a0) ∧ ∀ k : Nat, k < e → ¬ (D 137 k = D 137 e ∧ D 162 k = D 162 e) := by
    intro e
    unfold cnA
    rw [Bool.and_eq_true, Bool.not_eq_true', Bool.not_eq_true', Bool.eq_false_iff, Bool.eq_false_iff, Ne, Bool.and_eq_true, decide_eq_true_eq, decide_eq_true_eq, Ne, exB_t]
    constructor
    · intro ⟨h1, h2⟩
      refine ⟨h1, fun k hk w => h2 ⟨k, hk, ?_⟩⟩
      rw [Bool.and_eq_true, decide_eq_true_eq, decide_eq_true_eq]
      exact w
    · intro ⟨h1, h2⟩
      refine ⟨h1, fun ⟨k, hk, w⟩ => h2 k hk ?_⟩
      rw [Bool.and_eq_true, decide_eq_true_eq, decide_eq_true_eq] at w
      exact w
  refine ⟨fun e _ h => ((t e).mp h).1, fun e he _ hne => ?_⟩
  obtain ⟨e0, a1, a2, a3⟩ := first_ex (p := fun k => D 137 (k : Int) = D 137 e ∧ D 162 (k : Int) = D 162 e) m e he ⟨rfl, rfl⟩
  refine ⟨e0, by omega, ?_, a2, fun e1 h1 h2 h3 h4 => ?_⟩
  · rw [t]
    refine ⟨by rw [a2.1, a2.2]; exact hne, fun k hk w => a3 k hk ?_⟩
    exact ⟨by rw [w.1]; exact a2.1, by rw [w.2]; exact a2.2⟩
  · have := ((t e1).mp h2).2
    by_cases q : e1 < e0
    · exact absurd ⟨h3, h4⟩ (a3 e1 q)
    · by_cases w : e1 = e0
      · exact w
      · exact absurd ⟨by rw [h3]; exact a2.1, by rw [h4]; exact a2.2⟩ (this e0 (by omega))
/-- within how many steps a slip is caught, by these checks -/
def caV (D : Sto) (nb m ck e b : Nat) : Int := LvI (nxD D m) nb (ceX (xD D m e b) ck) b
theorem ce_lt {X ck nb : Nat} (h : ck < 2 ^ nb) : ceX X ck < 2 ^ nb := by
  unfold ceX
  split
  · exact Nat.two_pow_pos nb
  · exact h
theorem c277 (d : Nat) (B : BS D nb m) (L : LN D nb m) (hG : ofS G D) (e b ck : Nat) (he : e < m) (hb : b < nb) (hc : ck < 2 ^ nb) : ∃ G', ofS G' D ∧ den (d + 30) 277 [(2, 129), (0, (e : Int)), (0, (b : Int)), (0, (ck : Int))] (Sg xs n G) = some ((0, caV D nb m ck e b), Sg xs n G') := by
  have h8 := B.1.1.2.1
  have hc2 : ck < 256 := by
    have : 2 ^ nb ≤ 2 ^ 8 := Nat.pow_le_pow_right (by decide) h8
    omega
  obtain ⟨G1, a1, a2, a3, a4⟩ := c275 (xs := xs) (n := n) (d + 26) B L hG e b ck he hb
  have hX := (xD_s B he hb).1
  have I1 := SI_1 (ck := ck) B he hb a1 a2 ⟨a3.1, a3.2.1, a3.2.2.1⟩ (CN_A (b0 := (b : Int)) (a0 := D 162 e))
  obtain ⟨G2, s2, I2, _, _, b4⟩ := k276 (xs := xs) (n := n) B L (CN_A (b0 := (b : Int)) (a0 := D 162 e)) (fun _ _ => rfl) hX hc2 (ce_lt hc) 17 (d + 7) G1 1 0 I1 ⟨a3.1, a3.2.2.1⟩ (by
    intro j hj
    obtain rfl : j = 0 := by omega
    exact Or.inl a3.2.2.2.2) (by omega) (by
    intro j hj hw
    obtain rfl : j = 0 := by omega
    have : G1 161 0 = -1 := hw
    rw [a3.2.2.2.2] at this
    omega) (by omega)
  refine ⟨G2, I2.1, ?_⟩
  have e0 : (G1 157 ((0 : Nat) : Int)).toNat = b := by
    show (G1 157 0).toNat = b
    rw [a3.1]
    omega
  rw [e0] at b4
  rw [n277, h277_0, a4, cK9]
  show Rn (d + 29) 277 7 [some (2, 129), some (0, (e : Int)), some (0, (b : Int)), some (0, (ck : Int))] [] (Sg xs n G1) = _
  have b5 : den (d + 29) 276 [(2, 129), (0, 0)] (Sg xs n G1) = some ((0, LvI (nxD D m) nb (ceX (xD D m e b) ck) b), Sg xs n G2) := b4
  rw [h277_7, b5, cK0, pR0, h277_12]
  rfl
end S71
