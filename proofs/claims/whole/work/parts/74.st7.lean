/-! Twins: beyond -/
def pE (D : Sto) (lf e : Nat) (k : Nat) : Bool := lf.testBit (D 31 k).toNat && (decide (D 32 k = D 32 e) && decide (ajD D k = ajD D e))
def cnC (D : Sto) (lf : Nat) (b a : Int) (e : Nat) : Bool := lf.testBit (D 31 e).toNat && (!(decide (D 32 e = b) && decide (ajD D e = a)) && !exB (pE D lf e) e)
section S74
variable {xs : Int → Int} {n : Int × Int} {D G : Sto} {nb m : Nat}
theorem c12n (d e : Nat) (H : EG D nb m) (he : e < m) : den (d + 2) 12 [(2, 30), (0, (e : Int)), (2, 55), (2, 56)] (Sg xs n D) = some ((0, ajD D e), Sg xs n D) := by
  obtain ⟨hnb, h8, hm, h16, hE⟩ := H
  obtain ⟨⟨f1, f2⟩, f3, f4⟩ := hE e he
  exact c12c d (e : Int) (by omega) (by omega) (by omega) f3 (by omega) f1 (by omega)
theorem c181n (d x : Nat) (b : Int) (hx : x < 256) (h0 : 0 ≤ b) (h1 : b < 8) : den (d + 1) 181 [(0, (x : Int)), (0, b)] (Sg xs n D) = some ((0, bB (x.testBit b.toNat = true)), Sg xs n D) := by
  have := c181 (xs := xs) (n := n) (D := D) d x b.toNat (by omega) (by omega)
  rw [Int.toNat_of_nonneg h0] at this
  exact this
theorem c105 (d e lf : Nat) (H : EG D nb m) (he : e < m) (hl : lf < 256) : den (d + 3) 105 [(2, 54), (0, (e : Int)), (0, (lf : Int))] (Sg xs n D) = some ((0, bB (exB (pE D lf e) e = true)), Sg xs n D) := by
  have H' := H
  obtain ⟨hnb, h8, hm, h16, hE⟩ := H
  have key : ∀ r j, j + r = e → (∀ k, k < j → ¬ pE D lf e k = true) → Rn (d + 2) 105 20 [some (2, 54), some (0, (e : Int)), some (0, (lf : Int)), some (0, ajD D e), some (0, (j : Int)), none] [] (Sg xs n D) = some ((0, bB (exB (pE D lf e) e = true)), Sg xs n D) := by
    intro r
    induction r with
    | zero =>
      intro j hj hno
      obtain rfl : j = e := by omega
      have : ¬ exB (pE D lf j) j = true := fun w => by
        obtain ⟨k, k1, k2⟩ := (exB_t j).mp w
        exact hno k k1 k2
      rw [h105_20, if_pos (by omega), bB_f this]
    | succ r ih =>
      intro j hj hno
      obtain ⟨⟨f1, f2⟩, f3, f4⟩ := hE j (by omega)
      have next : ¬ pE D lf e j = true → Rn (d + 2) 105 20 [some (2, 54), some (0, (e : Int)), some (0, (lf : Int)), some (0, ajD D e), some (0, ((j + 1 : Nat) : Int)), none] [] (Sg xs n D) = some ((0, bB (exB (pE D lf e) e = true)), Sg xs n D) := by
        intro q
        refine ih (j + 1) (by omega) (fun k hk w => ?_)
        by_cases e2 : k = j
        · subst e2; exact q w
        · exact hno k (by omega) w
      rw [h105_20, if_neg (by omega), if_pos (inb_t (by omega) (by omega)), c181n (d + 1) lf (D 31 j) hl f1 (by omega), cK0, pR0, h105_40, bB_if, inb_t (show (0 : Int) ≤ (j : Int) by omega) (show (j : Int) < 16 by omega), inb_t (show (0 : Int) ≤ (e : Int) by omega) (show (e : Int) < 16 by omega), if_pos rfl, if_pos rfl]
      simp only [h105_69, h105_70, if_true, h105_100, w1 (show j < 2147483647 by omega), show ((1 : Int) = 0) = False by simp, if_false, c12n d j H' (show j < m by omega), cK0, pR0, h105_94]
      by_cases c1 : lf.testBit (D 31 j).toNat = true
      · rw [if_pos c1]
        by_cases c2 : D 32 j = D 32 e
        · rw [if_neg (fun w => w c2)]
          by_cases c3 : ajD D j = ajD D e
          · have : exB (pE D lf e) e = true := (exB_t e).mpr ⟨j, by omega, by unfold pE; simp [c1, c2, c3]⟩
            rw [if_neg (fun w => w c3), bB_t this]
          · rw [if_pos c3]
            exact next (by unfold pE; simp [c3])
        · rw [if_pos c2]
          exact next (by unfold pE; simp [c2])
      · rw [if_neg c1]
        exact next (by unfold pE; simp [c1])
  rw [n105, h105_0, c12n d e H' he, cK0, pR0, h105_16]
  exact key e 0 (by omega) (fun k hk => by omega)
theorem c104 (d e b ck : Nat) (nx : Nat → Nat) (H : EG D nb m) (HN : NX D nb nx) (he : e < m) (hb : b < nb) (hc : ck < 256) : ∃ lf : Nat, lf = rchI nx nb (if mkD D e b = D 55 b then 0 else ck) b nb ^^^ (rchI nx nb (if mkD D e b = D 55 b then 0 else ck) b nb &&& (if mkD D e b = D 55 b then 0 else ck)) ∧ den (d + 5) 104 [(2, 54), (0, (e : Int)), (0, (b : Int)), (0, (ck : Int))] (Sg xs n D) = some ((0, ((1 + cntP (cnC D lf b (ajD D e)) m : Nat) : Int)), Sg xs n D) := by
  have H' := H
  obtain ⟨hnb, h8, hm, h16, hE⟩ := H
  refine ⟨_, rfl, ?_⟩
  have hif : (((if mkD D e b = D 55 b then 0 else ck : Nat)) : Int) = if mkD D e b = D 55 b then 0 else (ck : Int) := by split <;> rfl
  generalize hsh : (if mkD D e b = D 55 b then 0 else ck : Nat) = sh at hif ⊢
  have hsl : sh < 256 := by
    rw [← hsh]
    split <;> omega
  have hr := rchI_lt (shut := sh) (fun k hk => (HN.2.2 k hk).2) (show b < 8 by omega) nb
  have hlf : rchI nx nb sh b nb ^^^ (rchI nx nb sh b nb &&& sh) < 256 := andn_lt (n := 8) hr
  have start : den (d + 5) 104 [(2, 54), (0, (e : Int)), (0, (b : Int)), (0, (ck : Int))] (Sg xs n D) = Rn (d + 4) 104 14 [some (2, 54), some (0, (e : Int)), some (0, (b : Int)), some (0, (ck : Int)), none, none, none, none, none, none] [(0, (sh : Int))] (Sg xs n D) := by
    rw [n104, h104_0, c98 d e b H' he hb, cK0, pR0, h104_6, bB_if, hif]
    split <;> rfl
  rw [start, h104_14, c14 (d + 1) b sh HN (by omega) hsl, cK0, pR0, h104_26, i_andn_nat (by omega) (by omega), c12n (d + 2) e H' he, cK0, pR0, h104_49]
  generalize rchI nx nb sh b nb ^^^ (rchI nx nb sh b nb &&& sh) = lf at hlf ⊢
  have key : ∀ r j o1 o4, j + r = m → Rn (d + 4) 104 57 [some (2, 54), o1, some (0, (b : Int)), none, o4, some (0, (lf : Int)), some (0, ajD D e), some (0, ((1 + cntP (cnC D lf b (ajD D e)) j : Nat) : Int)), some (0, (j : Int)), none] [] (Sg xs n D) = some ((0, ((1 + cntP (cnC D lf b (ajD D e)) m : Nat) : Int)), Sg xs n D) := by
    intro r
    induction r with
    | zero =>
      intro j o1 o4 hj
      obtain rfl : j = m := by omega
      rw [h104_57, hm, if_pos (by omega)]
    | succ r ih =>
      intro j o1 o4 hj
      obtain ⟨⟨f1, f2⟩, f3, f4⟩ := hE j (by omega)
      have hcp := cntP_le (cnC D lf b (ajD D e)) j
      have ihn := ih (j + 1) none none (by omega)
      have es : cntP (cnC D lf b (ajD D e)) (j + 1) = cntP (cnC D lf b (ajD D e)) j + (if cnC D lf b (ajD D e) j = true then 1 else 0) := rfl
      have tail : ∀ k0 : Int, (k0 = if D 32 j = b ∧ ajD D j = ajD D e then 1 else 0) → Rn (d + 4) 104 110 [some (2, 54), none, some (0, (b : Int)), none, none, some (0, (lf : Int)), some (0, ajD D e), some (0, ((1 + cntP (cnC D lf b (ajD D e)) j : Nat) : Int)), some (0, (j : Int)), none] [(0, k0)] (Sg xs n D) = some ((0, ((1 + cntP (cnC D lf b (ajD D e)) m : Nat) : Int)), Sg xs n D) := by
        intro k0 hk0
        rw [h104_110, if_pos (inb_t (by omega) (by omega)), c181n (d + 3) lf (D 31 j) hlf f1 (by omega), cK0, pR0, h104_127, bB_if, c105 (d + 1) j lf H' (by omega) hlf, cK0, pR0, h104_143]
        simp only [h104_149, w1 (show j < 2147483647 by omega), w1 (show 1 + cntP (cnC D lf b (ajD D e)) j < 2147483647 by omega)]
        have es0 : ¬ cnC D lf b (ajD D e) j = true → cntP (cnC D lf b (ajD D e)) (j + 1) = cntP (cnC D lf b (ajD D e)) j := fun w => by rw [es]; simp [w]
        rw [← ihn]
        by_cases c1 : lf.testBit (D 31 j).toNat = true
        · rw [if_pos c1]
          by_cases c2 : D 32 j = b ∧ ajD D j = ajD D e
          · rw [if_pos c2] at hk0
            have : ¬ cnC D lf b (ajD D e) j = true := by unfold cnC; simp [c2]
            rw [if_pos (by omega), es0 this]
          · rw [if_neg c2] at hk0
            rw [if_neg (by omega)]
            by_cases c3 : exB (pE D lf j) j = true
            · have : ¬ cnC D lf b (ajD D e) j = true := by unfold cnC; simp [c3]
              rw [if_pos (by rw [bB_t c3]; decide), es0 this]
            · have c3' : exB (pE D lf j) j = false := Bool.eq_false_iff.mpr c3
              have : cnC D lf b (ajD D e) j = true := by
                unfold cnC
                rw [c1, c3']
                simp only [Bool.true_and, Bool.not_false, Bool.and_true, Bool.not_eq_true', Bool.and_eq_false_iff, decide_eq_false_iff_not]
                by_cases c4 : D 32 j = b
                · right; exact fun w => c2 ⟨c4, w⟩
                · left; exact c4
              rw [if_neg (by rw [bB_f c3]; decide), es, if_pos this]
              rfl
        · have : ¬ cnC D lf b (ajD D e) j = true := by unfold cnC; simp [c1]
          rw [if_neg c1, es0 this]
      rw [h104_57, hm, if_neg (by omega), if_pos (inb_t (by omega) (by omega))]
      by_cases c1 : D 32 j = b
      · rw [if_neg (fun w => w c1), c12n (d + 2) j H' (by omega), cK0, pR0, h104_100]
        by_cases c2 : ajD D j = ajD D e
        · rw [if_neg (fun w => w c2)]
          exact tail 1 (by rw [if_pos ⟨c1, c2⟩])
        · rw [if_pos c2, h104_109]
          exact tail 0 (by rw [if_neg (fun w => c2 w.2)])
      · rw [if_pos c1, h104_109]
        exact tail 0 (by rw [if_neg (fun w => c1 w.1)])
  exact key m 0 _ _ (by omega)
theorem exB_ex {p q : Nat → Bool} : ∀ k, (∀ j, j < k → p j = q j) → exB p k = exB q k := by
  intro k
  induction k with
  | zero => intro _; rfl
  | succ k ih =>
    intro h
    unfold exB
    rw [h k (by omega), ih (fun j hj => h j (by omega))]
theorem tk_aj (K : RelK D nb m) {e : Nat} (he : e < m) : ajD (tkS D) e = raj D m 0 e := by
  obtain ⟨g, hB, hS, hR⟩ := tk_rel K
  unfold ajD
  rw [g.1.1, aj_eq g hB hS he, m2_aj tk_m2]
theorem ts_beyond (R : Rel D) (d : Nat) (e b : Int) : tws xs n (d + 60) 0 155 281 [(0, e), (0, b)] D := by
  have R0 := R
  obtain ⟨nb, m, K, X⟩ := R
  obtain ⟨G, hB, hS, h46, h45, hRB⟩ := RelK_G K
  have h8 := G.1.2.1
  obtain ⟨ck, c1, c2, c3, c4⟩ := ck0 X.2.2.2.1 h8
  by_cases h : isS D nb m e b
  · obtain ⟨G', hB', hS', hR'⟩ := tk_rel K
    have h' := h
    obtain ⟨⟨e0, e1⟩, ⟨b0, b1⟩, _⟩ := h
    have ee : (e.toNat : Int) = e := Int.toNat_of_nonneg e0
    have eb : (b.toNat : Int) = b := Int.toNat_of_nonneg b0
    have B0 : BS (up (tkS D) 129 0 0) nb m := m2_BS m2_0 (tk_BS K X)
    have mm0 : m2 (up (tkS D) 129 0 0) D := m2_t m2_0 tk_m2
    obtain ⟨D1, G2, s, l3, ⟨a1, a2, a3⟩, ⟨a4, a5⟩, a6⟩ := c279 (xs := xs) (n := n) (d + 54) B0 e.toNat b.toNat ck (by omega) (by omega) (by rw [up_ne (by decide), tk_ne (by decide) (by decide)]; exact c2) c3
    rw [ee, eb] at a6
    have mm : m2 D1 D := m2_t (ofN_m2 a1) mm0
    have hn := BF_n (ce := ceX (xD D m e.toNat b.toNat) ck) a4 (by rw [xD_m mm]) a3.1.1
    rw [eb] at hn
    obtain ⟨lf, q1, q2⟩ := c104 (xs := xs) (n := n) (D := tkS D) (d + 54) e.toNat b.toNat ck (nxD D m) G'.1 (NX_tk K X) (by omega) (by omega) c3
    have hlr := tk_lr K X (e := e.toNat) (b := b.toNat) (by omega) (by omega)
    rw [ee, eb] at q2
    rw [ee, eb] at q1 hlr
    have esh : (if mkD (tkS D) e b = tkS D 55 b then 0 else ck) = ceX (xD D m e.toNat b.toNat) ck := by
      unfold ceX
      by_cases q : mkD (tkS D) e b = tkS D 55 b
      · rw [if_pos q, if_pos (hlr.mp q)]
      · rw [if_neg q, if_neg (fun w => q (hlr.mpr w))]
    rw [esh] at q1
    have elf : lfS D1 nb m (ceX (xD D m e.toNat b.toNat) ck) b.toNat = lf := by
      rw [q1]
      unfold lfS
      rw [nxD_m mm]
    rw [elf] at hn
    have ea : ∀ k : Nat, k < m → ajD (tkS D) k = D1 162 k := by
      intro k hk
      rw [tk_aj K hk, a2.2 k hk, m2_aj mm]
    have ef : ∀ k : Nat, k < m → tkS D 31 k = D1 136 k ∧ tkS D 32 k = D1 137 k := by
      intro k hk
      rw [mm.1.2.2.1, mm.1.2.2.2.1, tk_ne (by decide) (by decide), tk_ne (by decide) (by decide)]
      exact G.2.2.1 k hk
    have ec : cntP (cnC (tkS D) lf b (ajD (tkS D) e)) m = cntP (cnB D1 lf b (D1 162 e.toNat)) m := by
      apply cntP_ex
      intro k hk
      unfold cnC cnB
      have t := ea e.toNat (by omega)
      rw [ee] at t
      rw [(ef k hk).1, (ef k hk).2, ea k hk, t, exB_ex (q := fun j => lf.testBit (D1 136 j).toNat && (decide (D1 137 j = D1 137 k) && decide (D1 162 j = D1 162 k))) k (fun j hj => by
        unfold pE
        rw [(ef j (by omega)).1, (ef j (by omega)).2, (ef k hk).2, ea j (by omega), ea k hk]), ee]
    rw [ec, ← hn] at q2
    refine tws_sim R0 (D1 := tkS D) (D2 := G2) (a := (s : Int)) ?_ ?_ (sim_t (sim_ofS a4.1.1.1) (sim_t (sim_ofN a1) (sim_t sim_0 sim_tk)))
    · rw [n155, h155_0, cS (d + 57) e b G h', cK0, pR0, h155_12, if_pos (by decide), c96]
      show Rn (d + 59) 155 31 [some (2, 1), some (0, e), some (0, b)] [] (Sg xs n (tkS D)) = _
      rw [h155_31, tk_ne (by decide) (by decide), c1, q2, cK0, pR0, h155_47]
    · rw [n281, h281_0, rS (d + 57) e b B0.1.1 ((isS_f (by rw [mm0.1.2.2.2.1])).mpr h'), cK0, pR0, h281_11, if_pos (by decide), a6, cK0, pR0, h281_22, a4.1.1.2.1.1]
  · refine tws_sim R0 (D1 := D) (D2 := up D 129 0 0) (a := -1) ?_ ?_ sim_0
    · rw [n155, h155_0, cSn (d + 57) e b G h, cK0, pR0, h155_12, if_neg (by decide)]
    · rw [n281, h281_0, rSn (d + 57) e b (RG_0 G.2.1) (fun w => h ((isS_f (by funext j; rw [up_ne (by decide)])).mp w)), cK0, pR0, h281_11, if_neg (by decide)]
end S74
