/-! The signs that are left: class and reference -/
theorem cpy_ne {D : Sto} {a i b j k c z : Int} (h : ¬ c = b) : cpy D a i b j k c z = D c z := by
  unfold cpy
  simp [h]
theorem cpy_at {D : Sto} {a b k z : Int} (h0 : 0 ≤ z) (h1 : z < k) : cpy D a 0 b 0 k b z = D a z := by
  unfold cpy
  rw [if_pos ⟨rfl, h0, by omega⟩, show (0 : Int) + (z - 0) = z by omega]
/-- the notes of the class beside the reference's -/
def NE (D E : Sto) (q q' nb m : Nat) : Prop := D 58 0 = q ∧ knC D = q' ∧ rkC E = q' ∧ q' ≤ q ∧ NT D q nb m ∧ ∀ k : Nat, k < q → D 62 k = E 172 k ∧ -1 ≤ E 172 k ∧ (D 62 k < 0 → D 59 k = E 169 k ∧ D 60 k = E 170 k ∧ D 61 k = E 171 k)
def slC (D : Sto) (q q' : Nat) (b : Int) : Nat := bitP (fun v => anF (ntP (up D 55 b v) (stdI (D 62) (2 ^ q' - 1) q')) 0 q) 16
def slR (E : Sto) (m q' : Nat) (b : Int) : Nat := bitP (fun v => anF (rnP (up (rE1 E q' b) 129 47 v) m) 0 q') 16
section SG
variable {xs : Int → Int} {n : Int × Int} {D E : Sto} {nb m q q' : Nat}
theorem SE_up {F : Sto} (hS : SE (D 55) E nb 0) (h46 : E 129 46 = -1) (hA : agN F E) {b : Nat} {v : Int} (h1 : F 129 46 = b) (h2 : F 129 47 = v) : SE (up D 55 b v 55) F nb 0 := by
  intro c hc
  have h3 := hS c hc
  unfold rsg at h3 ⊢
  rw [h46, if_neg (by omega)] at h3
  rw [h1, h2, agN_f hA 154 (by decide) (by decide)]
  by_cases e : (c : Int) = b
  · rw [e, if_pos rfl, up_at]
  · rw [if_neg e, up_ni e]
    exact h3
theorem NT_le (h : NT D q nb m) (hq : q' ≤ q) : NT D q' nb m := ⟨Nat.le_trans hq h.1, fun k hk => h.2 k (by omega)⟩
theorem sl_eq (hG : GE D E nb m) (hB : BE (D 56) E nb m) (hS : SE (D 55) E nb 0) (h46 : E 129 46 = -1) (hN : NE D E q q' nb m) (b : Nat) : slC D q q' b = slR E m q' b := by
  obtain ⟨n1, n2, n3, n4, ⟨n5, n6⟩, n7⟩ := hN
  unfold slC slR
  apply bitP_ex
  intro v hv
  have hA : agN (up (rE1 E q' b) 129 47 v) E := agN_v (Or.inr rfl) (agN_v (Or.inl rfl) (agN_s q' _ (agN_z q')))
  have f1 : (up (rE1 E q' b) 129 47 v) 129 46 = b := by
    rw [up_ni (by decide)]
    exact up_at
  have f2 : (up (rE1 E q' b) 129 47 v) 129 47 = v := up_at
  have f3 : ∀ j : Int, (up (rE1 E q' b) 129 47 v) 173 j = stR (zrK E q') q' 173 j := by
    intro j
    rw [up_ne (by decide)]
    exact up_ne (by decide)
  have hst := std_eq (q := q') (st := D 62) (fun k hk => ⟨(n6 k (by omega)).1, by rw [(n7 k (by omega)).1]; exact (n7 k (by omega)).2.1⟩) q' (2 ^ q' - 1) (zrK E q') (Nat.le_refl q') (fun j hj => by rw [agN_f (agN_z q') 172 (by decide) (by decide)]; exact (n7 j (by omega)).1.symm) (fun j => by rw [tb_all]; exact ⟨fun h => ⟨h, zrK_at q' j h⟩, fun h => h.1⟩)
  generalize (up (rE1 E q' b) 129 47 v) = F at hA f1 f2 f3 ⊢
  have hS' : SE (up D 55 b v 55) F nb 0 := SE_up hS h46 hA f1 f2
  have hG' : GE (up D 55 b v) F nb m := by
    obtain ⟨g1, g2, g3, g4⟩ := hG
    refine ⟨EG_up g1, agN_RG hA g2, ?_, ?_⟩
    · intro k hk
      rw [up_ne (by decide), up_ne (by decide), agN_f hA 136 (by decide) (by decide), agN_f hA 137 (by decide) (by decide)]
      exact g3 k hk
    · intro k hk
      rw [up_ne (by decide), agN_f hA 137 (by decide) (by decide)]
      exact g4 k hk
  have hB' : BE (up D 55 b v 56) F nb m := by
    intro k hk
    rw [up_ne (by decide), agN_bs hA, agN_f hA 137 (by decide) (by decide)]
    exact hB k hk
  have hnb : (up D 55 b v) 30 0 = nb := hG'.1.1
  apply anF_ex
  · intro k h1 h2
    obtain ⟨b4, b5, b6⟩ := n7 k h1
    by_cases hneg : D 62 k < 0
    rotate_left
    · unfold ntP rnP
      rw [show (up D 55 b v) 62 k = D 62 k from up_ne (by decide), agN_f hA 172 (by decide) (by decide), show decide (D 62 k < 0) = false from decide_eq_false hneg, show decide (E 172 k = -1) = false from decide_eq_false (by omega), Bool.and_false, Bool.and_false]
      rfl
    obtain ⟨⟨a1, a2⟩, ⟨a3, a4⟩⟩ := (n6 k h1).2 hneg
    obtain ⟨b1, b2, b3⟩ := b6 hneg
    have hm := mk_eq hG' hB' hS' (e := (E 169 k).toNat) (b := (E 170 k).toNat) (by omega) (by omega)
    have hs := SE_i hS' (b := E 170 k) (by omega) (by omega)
    rw [Int.toNat_of_nonneg (by omega), Int.toNat_of_nonneg (by omega)] at hm
    unfold ntP rnP
    have hk := hst k
    have e59 : (up D 55 b v) 59 k = E 169 k := by rw [up_ne (by decide)]; exact b1
    have e60 : (up D 55 b v) 60 k = E 170 k := by rw [up_ne (by decide)]; exact b2
    have e61 : (up D 55 b v) 61 k = E 171 k := by rw [up_ne (by decide)]; exact b3
    have e62 : (up D 55 b v) 62 k = E 172 k := by rw [up_ne (by decide)]; exact b4
    have em : mkD (up D 55 b v) (E 169 k) (E 170 k) = rmk F m (E 169 k) (E 170 k) := by
      unfold mkD
      rw [hnb]
      exact hm
    rw [e59, e60, e61, e62, em, hs, agN_f hA 169 (by decide) (by decide), agN_f hA 170 (by decide) (by decide), agN_f hA 171 (by decide) (by decide), agN_f hA 172 (by decide) (by decide), f3]
    have e1 : (stdI (D 62) (2 ^ q' - 1) q').testBit k = decide (stR (zrK E q') q' 173 k = 0) := by
      apply Bool.eq_iff_iff.mpr
      rw [hk, decide_eq_true_eq]
      exact ⟨fun h => h.2, fun h => ⟨h2, h⟩⟩
    have e2 : decide (E 172 k < 0) = decide (E 172 k = -1) := by
      apply Bool.eq_iff_iff.mpr
      rw [decide_eq_true_eq, decide_eq_true_eq]
      omega
    rw [e1, e2]
  · intro k h1 h2
    have hk := hst k
    have : (stdI (D 62) (2 ^ q' - 1) q').testBit k = false := by
      apply Bool.eq_false_iff.mpr
      intro h
      have := (hk.mp h).1
      omega
    unfold ntP
    rw [this]
    rfl
  · intro k h1 h2
    omega
theorem c96 (d : Nat) : den (d + 1) 96 [(2, 54), (2, 47)] (Sg xs n D) = some ((9, 0), Sg xs n (cpy (cpy D 47 0 55 0 8) 36 0 56 0 8)) := by
  rw [n96, h96_0]
end SG
/-- the class's slips take the run's signs and the graph's bases -/
abbrev tkS (D : Sto) : Sto := cpy (cpy D 47 0 55 0 8) 36 0 56 0 8
section SH
variable {xs : Int → Int} {n : Int × Int} {D E : Sto} {nb m q q' : Nat}
theorem tk_ne {c z : Int} (h1 : ¬ c = 55) (h2 : ¬ c = 56) : tkS D c z = D c z := by
  unfold tkS
  rw [cpy_ne h2, cpy_ne h1]
theorem tk_f {c : Int} (h1 : ¬ c = 55) (h2 : ¬ c = 56) : tkS D c = D c := by
  funext z
  exact tk_ne h1 h2
theorem tk_55 {z : Int} (h0 : 0 ≤ z) (h1 : z < 8) : tkS D 55 z = D 47 z := by
  unfold tkS
  rw [cpy_ne (by decide), cpy_at h0 h1]
theorem tk_56 {z : Int} (h0 : 0 ≤ z) (h1 : z < 8) : tkS D 56 z = D 36 z := by
  unfold tkS
  rw [cpy_at h0 h1, cpy_ne (by decide)]
theorem EG_tk (H : EG D nb m) : EG (tkS D) nb m := by
  unfold EG
  rw [tk_f (c := 30) (by decide) (by decide), tk_f (c := 31) (by decide) (by decide), tk_f (c := 32) (by decide) (by decide)]
  exact H
theorem NT_tk (H : NT D q nb m) : NT (tkS D) q nb m := by
  unfold NT
  rw [tk_f (c := 59) (by decide) (by decide), tk_f (c := 60) (by decide) (by decide), tk_f (c := 62) (by decide) (by decide)]
  exact H
theorem kn_tk : knC (tkS D) = knC D := by
  unfold knC
  rw [tk_f (c := 58) (by decide) (by decide)]
theorem c170 (d : Nat) (b : Int) (hk : D 58 0 = q) (hk' : knC D = q') (hq : q' ≤ q) (H : EG D nb m) (HT : NT D q nb m) : den (d + 7) 170 [(2, 1), (0, b)] (Sg xs n D) = some ((0, if 0 ≤ b ∧ b < nb then ((slC (tkS D) q q' b : Nat) : Int) else -1), Sg xs n (if 0 ≤ b ∧ b < nb then tkS D else D)) := by
  have hnb := H.1
  rw [n170, h170_0, c6a, cK0, pR0, h170_11, hnb]
  by_cases h : 0 ≤ b ∧ b < (nb : Int)
  · rw [if_pos h, if_pos h, if_pos (by simp [bB, h]), c96]
    have e := c57 (xs := xs) (n := n) (D := tkS D) d b.toNat (by omega) (show tkS D 58 0 = q by rw [tk_ne (by decide) (by decide)]; exact hk) (by rw [kn_tk]; exact hk') (EG_tk H) (NT_tk HT) (NT_tk (NT_le HT hq))
    rw [Int.toNat_of_nonneg h.1] at e
    show Rn (d + 6) 170 30 [some (2, 1), some (0, b)] [] (Sg xs n (tkS D)) = _
    rw [h170_30, e, cK0, pR0, h170_38]
    rfl
  · rw [if_neg h, if_neg h, if_neg (by simp [bB, h])]
theorem c309 (d : Nat) (b : Int) (hk : rkC D = q) (H : RG D nb m) (hB : RB D nb m) (HT : RN D q nb m) : den (d + 9) 309 [(2, 129), (0, b)] (Sg xs n D) = some ((0, if 0 ≤ b ∧ b < nb then ((slR (up D 129 0 0) m q b : Nat) : Int) else -1), Sg xs n (if 0 ≤ b ∧ b < nb then up (up (rE1 (up D 129 0 0) q b) 129 47 15) 129 46 (-1) else up D 129 0 0)) := by
  have hA : ∀ c : Int, ¬ c = 129 → up D 129 0 0 c = D c := fun c h => funext (fun z => up_ne h)
  have hN : ∀ z : Int, ¬ z = 0 → up D 129 0 0 129 z = D 129 z := fun z h => up_ni h
  have H0 : RG (up D 129 0 0) nb m := by
    unfold RG
    rw [hA 131 (by decide), hA 136 (by decide), hA 137 (by decide)]
    exact H
  have hbs : ∀ c, rbs (up D 129 0 0) m c = rbs D m c := by
    intro c
    unfold rbs
    rw [hN 45 (by decide), hA 135 (by decide), hA 136 (by decide), hA 137 (by decide), hA 156 (by decide)]
  have hB0 : RB (up D 129 0 0) nb m := by
    intro c hc
    rw [hbs, hA 135 (by decide), hA 137 (by decide)]
    exact hB c hc
  have HT0 : RN (up D 129 0 0) q nb m := by
    unfold RN
    rw [hA 169 (by decide), hA 170 (by decide), hA 172 (by decide)]
    exact HT
  have hk0 : rkC (up D 129 0 0) = q := by
    unfold rkC
    rw [hN 64 (by decide), hN 65 (by decide)]
    exact hk
  rw [n309, h309_0, c230, cK0, pR0, h309_10, hA 131 (by decide), H.1]
  by_cases h : 0 ≤ b ∧ b < (nb : Int)
  · rw [if_pos h, if_pos h, if_neg (by simp [bB, h])]
    have e := c308 (xs := xs) (n := n) d b.toNat hk0 H0 hB0 HT0
    rw [Int.toNat_of_nonneg h.1] at e
    rw [e, cK0, pR0, h309_18, h309_22]
    rfl
  · rw [if_neg h, if_neg h, if_pos (by simp [bB, h]), h309_22]
/-- the class's cells beside the reference's, as far as slips and notes go -/
def RelN (D : Sto) (nb m q q' : Nat) : Prop := GE D D nb m ∧ BE (D 36) D nb m ∧ SE (D 47) D nb 0 ∧ D 129 46 = -1 ∧ NE D D q q' nb m ∧ (∀ b : Nat, b < nb → 0 ≤ D 135 b ∧ D 135 b ≤ 8) ∧ D 129 45 = 0
theorem sg_eq (R : RelN D nb m q q') (b : Nat) : slC (tkS D) q q' b = slR (up (tkS D) 129 0 0) m q' b := by
  obtain ⟨⟨g1, g2, g3, g4⟩, hB, hS, h46, ⟨n1, n2, n3, n4, n5, n6⟩, _⟩ := R
  have h8 := g1.2.1
  have hC : ∀ c : Int, ¬ c = 129 → ¬ c = 55 → ¬ c = 56 → up (tkS D) 129 0 0 c = D c := fun c h h1 h2 => funext (fun z => by rw [up_ne h, tk_ne h1 h2])
  have hT : ∀ c : Int, ¬ c = 55 → ¬ c = 56 → tkS D c = D c := fun c h1 h2 => tk_f h1 h2
  have hN : ∀ z : Int, ¬ z = 0 → up (tkS D) 129 0 0 129 z = D 129 z := fun z h => by rw [up_ni h, tk_ne (by decide) (by decide)]
  have hbs : ∀ c, rbs (up (tkS D) 129 0 0) m c = rbs D m c := by
    intro c
    unfold rbs
    rw [hN 45 (by decide), hC 135 (by decide) (by decide) (by decide), hC 136 (by decide) (by decide) (by decide), hC 137 (by decide) (by decide) (by decide), hC 156 (by decide) (by decide) (by decide)]
  apply sl_eq (nb := nb)
  · refine ⟨EG_tk g1, ?_, ?_, ?_⟩
    · unfold RG
      rw [hC 131 (by decide) (by decide) (by decide), hC 136 (by decide) (by decide) (by decide), hC 137 (by decide) (by decide) (by decide)]
      exact g2
    · intro k hk
      rw [hT 31 (by decide) (by decide), hT 32 (by decide) (by decide), hC 136 (by decide) (by decide) (by decide), hC 137 (by decide) (by decide) (by decide)]
      exact g3 k hk
    · intro k hk
      rw [hT 34 (by decide) (by decide), hC 137 (by decide) (by decide) (by decide)]
      exact g4 k hk
  · intro k hk
    rw [tk_56 (by omega) (by omega), hbs, hC 137 (by decide) (by decide) (by decide)]
    exact hB k hk
  · intro k hk
    rw [tk_55 (by omega) (by omega)]
    have := hS k hk
    unfold rsg at this ⊢
    rw [hN 46 (by decide), hN 47 (by decide), hC 154 (by decide) (by decide) (by decide)]
    exact this
  · rw [hN 46 (by decide)]
    exact h46
  · refine ⟨by rw [hT 58 (by decide) (by decide)]; exact n1, by rw [kn_tk]; exact n2, ?_, n4, NT_tk n5, ?_⟩
    · unfold rkC
      rw [hN 64 (by decide), hN 65 (by decide)]
      exact n3
    · intro k hk
      rw [hT 59 (by decide) (by decide), hT 60 (by decide) (by decide), hT 61 (by decide) (by decide), hT 62 (by decide) (by decide), hC 169 (by decide) (by decide) (by decide), hC 170 (by decide) (by decide) (by decide), hC 171 (by decide) (by decide) (by decide), hC 172 (by decide) (by decide) (by decide)]
      exact n6 k hk
end SH
