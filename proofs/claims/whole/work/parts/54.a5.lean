/-! Ask: the whole call, class and reference -/
theorem xr256 {a b : Int} (h1 : 0 ≤ a ∧ a < 256) (h2 : 0 ≤ b ∧ b < 256) : 0 ≤ i_xor a b ∧ i_xor a b < 256 := by
  have e := i_xor_nat (x := a.toNat) (y := b.toNat) (by omega) (by omega)
  rw [Int.toNat_of_nonneg h1.1, Int.toNat_of_nonneg h2.1] at e
  have := Nat.xor_lt_two_pow (n := 8) (x := a.toNat) (y := b.toNat) (by omega) (by omega)
  rw [e]
  omega
theorem mkS_lt {nb m : Nat} {F T ic sg bs : Int → Int} (hs : ∀ b : Int, 0 ≤ b → b < nb → 0 ≤ sg b ∧ sg b < 256) {e b : Nat} (h1 : 0 ≤ F e ∧ F e < nb) (hb : b < nb) : 0 ≤ mkS nb F T ic sg bs e b ∧ mkS nb F T ic sg bs e b < 256 := by
  have hd : 0 ≤ diffS nb sg bs b ∧ diffS nb sg bs b < 256 := by
    unfold diffS
    split
    · next h => exact xr256 (hs _ h.1 h.2) (hs _ (by omega) (by omega))
    · exact hs _ (by omega) (by omega)
  have ha : 0 ≤ adjS nb F T ic sg bs e ∧ adjS nb F T ic sg bs e < 256 := by
    unfold adjS
    split
    · next h => exact xr256 (hs _ h.2.1 h.2.2) (hs _ h1.1 h1.2)
    · omega
  have h0 := hs _ h1.1 h1.2
  unfold mkS
  split
  · exact xr256 (xr256 h0 hd) ha
  · exact xr256 h0 hd
/-- a store that differs in the class's slips and notes' places alone -/
def ofC (F D : Sto) : Prop := ∀ z : Int, ¬ z = 55 → ¬ z = 56 → ¬ z = 58 → ¬ z = 63 → F z = D z
section A5
variable {xs : Int → Int} {n : Int × Int} {D E F : Sto} {nb m q q' : Nat}
theorem RelN_E (R : RelN D nb m q q') (hF : ofC F D) (hE : mrk E F) (h46 : E 129 46 = -1) (hk : rkC E = q') (hN : ∀ z : Int, z = 169 ∨ z = 170 ∨ z = 171 ∨ z = 172 → E z = F z) : GE (tkS D) E nb m ∧ BE (tkS D 56) E nb m ∧ SE (tkS D 55) E nb 0 ∧ NE (tkS D) E q q' nb m := by
  obtain ⟨⟨g1, g2, g3, g4⟩, hB, hS, h46', ⟨n1, n2, n3, n4, n5, n6⟩, _⟩ := R
  have h8 := g1.2.1
  have hT : ∀ c : Int, ¬ c = 55 → ¬ c = 56 → tkS D c = D c := fun c h1 h2 => tk_f h1 h2
  have hM : mrk F D := ⟨hF 131 (by decide) (by decide) (by decide) (by decide), hF 135 (by decide) (by decide) (by decide) (by decide), hF 136 (by decide) (by decide) (by decide) (by decide), hF 137 (by decide) (by decide) (by decide) (by decide), hF 154 (by decide) (by decide) (by decide) (by decide), hF 156 (by decide) (by decide) (by decide) (by decide), by rw [hF 129 (by decide) (by decide) (by decide) (by decide)]⟩
  have hE' := mrk_2 hE hM
  have hNz : ∀ z : Int, z = 169 ∨ z = 170 ∨ z = 171 ∨ z = 172 → E z = D z := by
    intro z hz
    rw [hN z hz]
    exact hF z (by omega) (by omega) (by omega) (by omega)
  refine ⟨⟨EG_tk g1, mrk_RG hE' g2, ?_, ?_⟩, ?_, ?_, ?_⟩
  · intro k hk
    rw [hT 31 (by decide) (by decide), hT 32 (by decide) (by decide), hE'.2.2.1, hE'.2.2.2.1]
    exact g3 k hk
  · intro k hk
    rw [hT 34 (by decide) (by decide), hE'.2.2.2.1]
    exact g4 k hk
  · intro k hk
    rw [tk_56 (by omega) (by omega), mrk_bs hE', hE'.2.2.2.1]
    exact hB k hk
  · intro k hk
    rw [tk_55 (by omega) (by omega)]
    have := hS k hk
    unfold rsg at this ⊢
    rw [h46', if_neg (by omega)] at this
    rw [h46, if_neg (by omega), hE'.2.2.2.2.1]
    exact this
  · refine ⟨by rw [hT 58 (by decide) (by decide)]; exact n1, by rw [kn_tk]; exact n2, hk, n4, NT_tk n5, ?_⟩
    intro k hk
    rw [hT 59 (by decide) (by decide), hT 60 (by decide) (by decide), hT 61 (by decide) (by decide), hT 62 (by decide) (by decide), hNz 169 (by omega), hNz 170 (by omega), hNz 171 (by omega), hNz 172 (by omega)]
    exact n6 k hk
theorem RB_of (hB : BE (D 36) D nb m) (h8 : nb ≤ 8) (ha : ∀ b : Nat, b < nb → 0 ≤ D 135 b ∧ D 135 b ≤ 8) : RB D nb m := by
  intro b hb
  obtain ⟨a1, a2, a3, a4⟩ := hB b hb
  have := ha b hb
  exact ⟨a2, by omega, a4, this.1, this.2⟩
/-- what is asked for, in the class's words -/
def qF (D : Sto) (c : Int) (e b v : Nat) : Nat := (mkD (up (tkS D) 55 c v) e b).toNat
theorem qF_c (R : RelN D nb m q q') (h16 : ∀ b : Nat, b < nb → 0 ≤ D 47 b ∧ D 47 b < 256) (c : Int) : ∀ e : Nat, e < m → ∀ b : Nat, b < nb → ∀ v : Nat, v < 16 → mkD (up (tkS D) 55 c v) e b = ((qF D c e b v : Nat) : Int) ∧ qF D c e b v < 256 := by
  intro e he b hb v hv
  obtain ⟨⟨g1, g2, g3, g4⟩, hB, hS, h46', hN, _⟩ := R
  have hE := EG_up (b := c) (v := v) (EG_tk g1)
  have h8 := g1.2.1
  have := mkS_lt (nb := nb) (m := m) (F := up (tkS D) 55 c v 31) (T := up (tkS D) 55 c v 32) (ic := up (tkS D) 55 c v 34) (sg := up (tkS D) 55 c v 55) (bs := up (tkS D) 55 c v 56) (e := e) (b := b) (by
    intro z h1 h2
    by_cases hz : z = c
    · rw [hz, up_at]
      omega
    · rw [up_ni hz, tk_55 h1 (by omega)]
      have := h16 z.toNat (by omega)
      rw [Int.toNat_of_nonneg h1] at this
      exact this) (hE.2.2.2.2 e he).1 hb
  unfold qF
  unfold mkD
  rw [hE.1]
  omega
theorem qF_r (R : RelN D nb m q q') (hF : ofC F D) (hE : mrk E F) (c : Nat) : ∀ e : Nat, e < m → ∀ b : Nat, b < nb → ∀ v : Nat, v < 16 → mkD (up (tkS D) 55 c v) e b = rmk (up (up E 129 46 c) 129 47 v) m e b := by
  intro e he b hb v hv
  obtain ⟨⟨g1, g2, g3, g4⟩, hB, hS, h46', hN, _⟩ := R
  have h8 := g1.2.1
  have hM : mrk F D := ⟨hF 131 (by decide) (by decide) (by decide) (by decide), hF 135 (by decide) (by decide) (by decide) (by decide), hF 136 (by decide) (by decide) (by decide) (by decide), hF 137 (by decide) (by decide) (by decide) (by decide), hF 154 (by decide) (by decide) (by decide) (by decide), hF 156 (by decide) (by decide) (by decide) (by decide), by rw [hF 129 (by decide) (by decide) (by decide) (by decide)]⟩
  have hG : mrk (up (up E 129 46 c) 129 47 v) D := mrk_2 (mrk_v (by decide)) (mrk_2 (mrk_v (by decide)) (mrk_2 hE hM))
  have f1 : (up (up E 129 46 c) 129 47 v) 129 46 = c := by rw [up_ni (by decide), up_at]
  have f2 : (up (up E 129 46 c) 129 47 v) 129 47 = v := up_at
  generalize (up (up E 129 46 c) 129 47 v) = G at hG f1 f2
  have hT : ∀ z : Int, ¬ z = 55 → ¬ z = 56 → up (tkS D) 55 c v z = D z := fun z h1 h2 => funext (fun j => by rw [up_ne h1, tk_ne h1 h2])
  unfold mkD
  rw [hT 30 (by decide) (by decide), g1.1]
  refine mk_eq (D := up (tkS D) 55 c v) ⟨EG_up (EG_tk g1), mrk_RG hG g2, ?_, ?_⟩ ?_ ?_ he hb
  · intro k hk
    rw [hT 31 (by decide) (by decide), hT 32 (by decide) (by decide), hG.2.2.1, hG.2.2.2.1]
    exact g3 k hk
  · intro k hk
    rw [hT 34 (by decide) (by decide), hG.2.2.2.1]
    exact g4 k hk
  · intro k hk
    rw [up_ne (by decide), tk_56 (by omega) (by omega), mrk_bs hG, hG.2.2.2.1]
    exact hB k hk
  · intro k hk
    have := hS k hk
    unfold rsg at this ⊢
    rw [h46', if_neg (by omega)] at this
    rw [f1, f2, hG.2.2.2.2.1]
    by_cases e : (k : Int) = c
    · rw [e, if_pos rfl, up_at]
    · rw [if_neg e, up_ni e, tk_55 (by omega) (by omega)]
      exact this
theorem c311 (d : Nat) (c l2 : Int) (g : Nat → Nat → Nat → Nat) (hk : rkC E = q) (H : RG E nb m) (hB : RB E nb m) (HT : RN E q nb m) (hg : 0 ≤ c → ∀ e : Nat, e < m → ∀ b : Nat, b < nb → ∀ v : Nat, v < 16 → rmk (up (up E 129 46 c) 129 47 v) m e b = g e b v) : ∃ G, agQ G E ∧ (E 129 46 = -1 → G 129 46 = -1) ∧ den (d + 9) 311 [(2, 129), (0, c), (0, l2)] (Sg xs n E) = some ((0, if (0 ≤ c ∧ c < nb) ∧ 0 ≤ l2 ∧ l2 ≤ 2 then aAns l2 (rbP (qP (E 137) nb m) (qW g (slR (up E 129 0 0) m q c)) 128) else -1), Sg xs n G) := by
  have hA : ∀ z : Int, ¬ z = 129 → up E 129 0 0 z = E z := fun z h => funext (fun j => up_ne h)
  have hM : mrk (up E 129 0 0) E := mrk_v (by decide)
  have hQ : agQ (up E 129 0 0) E := by
    intro z j _ _ h3
    by_cases e : z = 129
    · exact up_ni (fun w => h3 ⟨e, Or.inl w⟩)
    · exact up_ne e
  rw [n311, h311_0, c230, cK0, pR0, h311_10, hM.1, H.1, bB_if]
  by_cases h : (0 ≤ c ∧ c < (nb : Int)) ∧ 0 ≤ l2 ∧ l2 ≤ 2
  · have HT0 : RN (up E 129 0 0) q nb m := by
      unfold RN
      rw [hA 169 (by decide), hA 170 (by decide), hA 172 (by decide)]
      exact HT
    have hk0 : rkC (up E 129 0 0) = q := by
      unfold rkC
      rw [up_ni (by decide), up_ni (by decide)]
      exact hk
    have e := c308 (xs := xs) (n := n) d c.toNat hk0 (mrk_RG hM H) (mrk_RB hM hB) HT0
    rw [Int.toNat_of_nonneg h.1.1] at e
    have hc : (c.toNat : Int) = c := Int.toNat_of_nonneg h.1.1
    have hN : agN (up (up (rE1 (up E 129 0 0) q c) 129 47 15) 129 46 (-1)) (up E 129 0 0) := agN_v (Or.inl rfl) (agN_v (Or.inr rfl) (agN_v (Or.inl rfl) (agN_s q _ (agN_z q))))
    obtain ⟨G, a1, a2, a3⟩ := k311 (xs := xs) (n := n) d c.toNat (slR (up E 129 0 0) m q c) l2 g H hB (bitP_lt _ 16) (by rw [hc]; exact hg h.1.1) 128 0 _ (by omega) (agQ_N hN hQ) up_at
    rw [hc] at a3
    refine ⟨G, a1, fun _ => a2, ?_⟩
    rw [if_pos h.1, if_neg (by omega), if_pos (by omega), e, cK0, pR0, h311_29, if_pos h]
    exact a3
  · refine ⟨up E 129 0 0, hQ, fun w => by rw [up_ni (by decide)]; exact w, ?_⟩
    rw [if_neg h]
    simp only [h311_22]
    (repeat' split) <;> first | rfl | (exfalso; omega)
theorem c171 (d : Nat) (c l2 : Int) (f : Nat → Nat → Nat → Nat) (hk : D 58 0 = q) (hk' : knC D = q') (hq : q' ≤ q) (H : EG D nb m) (HT : NT D q nb m) (hf : 0 ≤ c → ∀ e : Nat, e < m → ∀ b : Nat, b < nb → ∀ v : Nat, v < 16 → mkD (up (tkS D) 55 c v) e b = f e b v ∧ f e b v < 256) : ∃ F, ofC F D ∧ (∀ j : Int, ¬ (j = 1 ∨ j = 2 ∨ j = 3) → F 58 j = D 58 j) ∧ den (d + 8) 171 [(2, 1), (0, c), (0, l2)] (Sg xs n D) = some ((0, if (0 ≤ c ∧ c < nb) ∧ 0 ≤ l2 ∧ l2 ≤ 2 then aAns l2 (rbP (qP (D 32) nb m) (qW f (slC (tkS D) q q' c)) 128) else -1), Sg xs n F) := by
  rw [n171, h171_0, c6a, cK0, pR0, h171_11, H.1, bB_if, c179, cK0, pR0, h171_20]
  by_cases h : (0 ≤ c ∧ c < (nb : Int)) ∧ 0 ≤ l2 ∧ l2 ≤ 2
  · have hc : (c.toNat : Int) = c := Int.toNat_of_nonneg h.1.1
    obtain ⟨F, l4, ⟨a1, a2, a3⟩, a4⟩ := c59 (xs := xs) (n := n) (D := tkS D) d c.toNat q q' f (show tkS D 58 0 = q by rw [tk_ne (by decide) (by decide)]; exact hk) (by rw [kn_tk]; exact hk') hq (EG_tk H) (NT_tk HT) (by omega) (by rw [hc]; exact hf h.1.1)
    rw [hc] at a2 a3 a4
    rw [tk_f (D := D) (c := 32) (by decide) (by decide)] at a2 a3
    refine ⟨F, ?_, ?_, ?_⟩
    · intro z h1 h2 h3 h4
      funext j
      rw [a1 z j h4 (fun w => h3 w.1), tk_ne h1 h2]
    · intro j hj
      rw [a1 58 j (by decide) (fun w => hj w.2), tk_ne (by decide) (by decide)]
    · rw [if_pos h.1, if_pos (by simp [bB, h.2]), c96]
      show Rn (d + 7) 171 39 [some (2, 1), some (0, c), some (0, l2)] [] (Sg xs n (tkS D)) = _
      rw [h171_39, a4, cK0, pR0, h171_47, if_pos h]
      generalize rbP (qP (D 32) nb m) (qW f (slC (tkS D) q q' c)) 128 = p at a2 a3
      unfold aAns
      by_cases hp : p.2 = 99
      · rw [a2, if_pos hp, if_neg (by decide), if_pos hp]
      · obtain ⟨b1, b2, b3⟩ := a3 hp
        rw [a2, if_neg hp, if_pos (by decide), if_neg hp, b1, b2, b3]
        (repeat' split) <;> first | rfl | (exfalso; omega)
  · refine ⟨D, fun z _ _ _ _ => rfl, fun _ _ => rfl, ?_⟩
    rw [if_neg h]
    simp only [h171_23]
    by_cases h1 : 0 ≤ c ∧ c < (nb : Int)
    · rw [if_pos h1, if_neg (by simp [bB]; omega)]
    · rw [if_neg h1]
end A5
