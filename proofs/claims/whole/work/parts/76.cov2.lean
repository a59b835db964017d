/-! Twins: cover, both calls -/
section S76
variable {xs : Int → Int} {n : Int × Int} {D G : Sto} {nb m : Nat}
def nvS (D : Sto) (nb m ck e b : Nat) : Int := bB (¬ D 137 e = b ∧ caV D nb m ck e b < 0)
theorem nv_01 {ck e b : Nat} : 0 ≤ nvS D nb m ck e b ∧ nvS D nb m ck e b ≤ 1 := bB_01 _
theorem nv_b {ck e : Nat} : ∀ k : Nat, 0 ≤ sumN (fun b => nvS D nb m ck e b) k ∧ sumN (fun b => nvS D nb m ck e b) k ≤ k := by
  intro k
  induction k with
  | zero => simp [sumN]
  | succ k ih =>
    have := nv_01 (D := D) (nb := nb) (m := m) (ck := ck) (e := e) (b := k)
    unfold sumN
    omega
theorem nv_o {ck : Nat} (h8 : nb ≤ 8) : ∀ k : Nat, 0 ≤ sumN (fun e => sumN (fun b => nvS D nb m ck e b) nb) k ∧ sumN (fun e => sumN (fun b => nvS D nb m ck e b) nb) k ≤ 8 * k := by
  intro k
  induction k with
  | zero => simp [sumN]
  | succ k ih =>
    have := nv_b (D := D) (nb := nb) (m := m) (ck := ck) (e := k) nb
    unfold sumN
    omega
theorem c286 (d ck : Nat) (B : BS D nb m) (hck : D 153 0 = ck) (hc : ck < 2 ^ nb) : ∃ D1 G, (ofN D1 D ∧ BS D1 nb m) ∧ kpS G D1 ∧ den (d + 33) 286 [(2, 129)] (Sg xs n D) = some ((0, sumN (fun e => sumN (fun b => nvS D1 nb m ck e b) nb) m), Sg xs n G) := by
  obtain ⟨D1, a1, L, a3⟩ := c272 (xs := xs) (n := n) (d + 28) B
  have B1 := m2_BS (ofN_m2 a1) B
  have h1ck : D1 153 0 = ck := by rw [a1 153 0 (by decide)]; exact hck
  obtain ⟨hnb, h8, hm, h16, hE⟩ := B1.1.1
  have inner : ∀ (e : Nat), e < m → ∀ (r b : Nat) (a : Int) (G : Sto), b + r = nb → 0 ≤ a → a ≤ 8 * e → kpS G D1 → ∃ G', kpS G' D1 ∧ Rn (d + 32) 286 20 [some (2, 129), some (0, a + sumN (fun b => nvS D1 nb m ck e b) b), some (0, (e : Int)), some (0, (b : Int))] [] (Sg xs n G) = Rn (d + 32) 286 8 [some (2, 129), some (0, a + sumN (fun b => nvS D1 nb m ck e b) nb), some (0, ((e + 1 : Nat) : Int)), some (0, (nb : Int))] [] (Sg xs n G') := by
    intro e he r
    induction r with
    | zero =>
      intro b a G hb h0 h1 hG
      obtain rfl : b = nb := by omega
      refine ⟨G, hG, ?_⟩
      rw [h286_20, kp_z hG 131 0 (by decide) (by decide) (by decide), hnb, if_pos (by omega), w1 (by omega)]
    | succ r ih =>
      intro b a G hb h0 h1 hG
      have hs := nv_b (D := D1) (nb := nb) (m := m) (ck := ck) (e := e) b
      have hg1 := nv_01 (D := D1) (nb := nb) (m := m) (ck := ck) (e := e) (b := b)
      have tail : ∀ (G1 : Sto) (o1 : Option Vv) (k1 : Int), kpS G1 D1 → k1 = nvS D1 nb m ck e b → ∃ G', kpS G' D1 ∧ Rn (d + 32) 286 61 [some (2, 129), o1, some (0, (e : Int)), some (0, (b : Int))] [(0, k1), (0, a + sumN (fun b => nvS D1 nb m ck e b) b)] (Sg xs n G1) = Rn (d + 32) 286 8 [some (2, 129), some (0, a + sumN (fun b => nvS D1 nb m ck e b) nb), some (0, ((e + 1 : Nat) : Int)), some (0, (nb : Int))] [] (Sg xs n G') := by
        intro G1 o1 k1 hG1 hk1
        obtain ⟨G', b1, b2⟩ := ih (b + 1) a G1 (by omega) h0 h1 hG1
        refine ⟨G', b1, ?_⟩
        rw [h286_61, w1 (by omega), w32_idP (by omega) (by omega), hk1, Int.add_assoc]
        exact b2
      rw [h286_20, kp_z hG 131 0 (by decide) (by decide) (by decide), hnb, if_neg (by omega), if_pos (inb_t (by omega) (by omega)), kp_z hG 137 _ (by decide) (by decide) (by decide), kp_z hG 153 0 (by decide) (by decide) (by decide), h1ck, h286_60]
      by_cases c1 : D1 137 e = b
      · rw [if_pos c1]
        exact tail G none 0 hG (bB_f (fun w => w.1 c1)).symm
      · rw [if_neg c1]
        obtain ⟨G1, b1, b2⟩ := c277 (xs := xs) (n := n) (D := G) (G := G) (d + 2) (m2_BS (kp_m2 hG) B1) (kp_LN hG L) (fun _ _ _ _ => rfl) e b ck he (by omega) hc
        rw [caV_m (kp_m2 hG)] at b2
        rw [b2, cK0, pR0, h286_53, h286_60]
        by_cases c2 : caV D1 nb m ck e b < 0
        · rw [if_neg (fun w => w c2)]
          exact tail G1 _ 1 (kp_S b1 hG) (bB_t ⟨c1, c2⟩).symm
        · rw [if_pos c2]
          exact tail G1 none 0 (kp_S b1 hG) (bB_f (fun w => c2 w.2)).symm
  have outer : ∀ (r e : Nat) (o3 : Option Vv) (G : Sto), e + r = m → kpS G D1 → ∃ G', kpS G' D1 ∧ Rn (d + 32) 286 8 [some (2, 129), some (0, sumN (fun e => sumN (fun b => nvS D1 nb m ck e b) nb) e), some (0, (e : Int)), o3] [] (Sg xs n G) = some ((0, sumN (fun e => sumN (fun b => nvS D1 nb m ck e b) nb) m), Sg xs n G') := by
    intro r
    induction r with
    | zero =>
      intro e o3 G he hG
      obtain rfl : e = m := by omega
      refine ⟨G, hG, ?_⟩
      rw [h286_8, kp_z hG 131 1 (by decide) (by decide) (by decide), hm, if_pos (by omega)]
    | succ r ih =>
      intro e o3 G he hG
      have hs := nv_o (D := D1) (m := m) (ck := ck) h8 e
      obtain ⟨G1, b1, b2⟩ := inner e (by omega) nb 0 _ G (by omega) hs.1 hs.2 hG
      obtain ⟨G2, b3, b4⟩ := ih (e + 1) (some (0, (nb : Int))) G1 (by omega) b1
      refine ⟨G2, b3, ?_⟩
      rw [show sumN (fun b => nvS D1 nb m ck e b) 0 = 0 from rfl, Int.add_zero] at b2
      rw [h286_8, kp_z hG 131 1 (by decide) (by decide) (by decide), hm, if_neg (by omega)]
      exact b2.trans b4
  obtain ⟨G, b1, b2⟩ := outer m 0 none D1 (by omega) (fun _ _ _ _ _ => rfl)
  refine ⟨D1, G, ⟨a1, B1⟩, b1, ?_⟩
  rw [n286, h286_0, a3, cK9]
  show Rn (d + 32) 286 6 [some (2, 129), some (0, 0), none, none] [] (Sg xs n D1) = _
  rw [h286_6]
  exact b2
theorem sl_n (H : RG D nb m) : sumN (fun e => sumN (fun b => bB (¬ D 137 e = (b : Int))) nb) m = (m : Int) * ((nb : Int) - 1) := by
  have h1 : ∀ e : Nat, e < m → sumN (fun b => bB (¬ D 137 e = (b : Int))) nb = (nb : Int) - 1 := by
    intro e he
    obtain ⟨_, f3, f4⟩ := H.2.2.2.2 e he
    have key : ∀ k : Nat, sumN (fun b => bB (¬ D 137 e = (b : Int))) k = (k : Int) - (if D 137 e < k then 1 else 0) := by
      intro k
      induction k with
      | zero =>
        rw [if_neg (by omega)]
        rfl
      | succ k ih =>
        unfold sumN
        rw [ih]
        by_cases q : D 137 e = k
        · rw [bB_f (fun w => w q), if_neg (by omega), if_pos (by omega)]
          omega
        · rw [bB_t q]
          by_cases w : D 137 e < k
          · rw [if_pos w, if_pos (by omega)]
            omega
          · rw [if_neg w, if_neg (by omega)]
            omega
    rw [key nb, if_pos f4]
  rw [sumN_ex m h1, sum_c, Int.mul_comm]
theorem nv_eq (H : RG D nb m) {ck : Nat} (hc : ck < 2 ^ nb) : sumN (fun e => sumN (fun b => nvS D nb m ck e b) nb) m = (m : Int) * ((nb : Int) - 1) - cwD D nb m (frcI (nxD D m) nb ck (min 39 nb)) := by
  have h8 := H.2.1
  rw [← sl_n H]
  unfold cwD
  rw [sum_swap (fun b e => bB ((frcI (nxD D m) nb ck (min 39 nb)).testBit b = true ∧ ¬ D 137 e = b ∧ ¬ xD D m e b = 0)) m nb]
  have key : sumN (fun e => sumN (fun b => bB (¬ D 137 e = (b : Int))) nb) m = sumN (fun e => sumN (fun b => nvS D nb m ck e b) nb) m + sumN (fun e => sumN (fun b => bB ((frcI (nxD D m) nb ck (min 39 nb)).testBit b = true ∧ ¬ D 137 e = b ∧ ¬ xD D m e b = 0)) nb) m := by
    rw [← sum_plus]
    apply sumN_ex
    intro e he
    rw [← sum_plus]
    apply sumN_ex
    intro b hb
    have t := ca_in (D := D) (m := m) (e := e) (lim := 40) hc hb (by decide)
    unfold nvS
    by_cases c1 : D 137 e = b
    · rw [bB_f (fun w => w c1), bB_f (fun w => w.1 c1), bB_f (fun w => w.2.1 c1)]
      rfl
    · by_cases c2 : caV D nb m ck e b < 0
      · rw [bB_t c1, bB_t ⟨c1, c2⟩, bB_f (fun w => by have := t.mpr ⟨w.2.2, w.1⟩; omega)]
        rfl
      · have c3 : caV D nb m ck e b ≤ ((40 : Nat) : Int) := by
          obtain w | w := Lv_r (nx := nxD D m) (ce_lt (X := xD D m e b) hc) hb
          · unfold caV; omega
          · unfold caV; omega
        have := t.mp ⟨by omega, c3⟩
        rw [bB_t c1, bB_f (fun w => c2 w.2), bB_t ⟨this.2, c1, this.1⟩]
        rfl
  omega
theorem cw_b {S : Nat} (h8 : nb ≤ 8) (h16 : m ≤ 16) : 0 ≤ cwD D nb m S ∧ cwD D nb m S ≤ 128 := by
  have h1 : ∀ b : Nat, 0 ≤ sumN (fun e => bB (S.testBit b = true ∧ ¬ D 137 e = b ∧ ¬ xD D m e b = 0)) m ∧ sumN (fun e => bB (S.testBit b = true ∧ ¬ D 137 e = b ∧ ¬ xD D m e b = 0)) m ≤ m := fun b => sumB_b (fun e : Nat => S.testBit b = true ∧ ¬ D 137 e = b ∧ ¬ xD D m e b = 0) m
  have key : ∀ k : Nat, 0 ≤ sumN (fun b => sumN (fun e => bB (S.testBit b = true ∧ ¬ D 137 e = b ∧ ¬ xD D m e b = 0)) m) k ∧ sumN (fun b => sumN (fun e => bB (S.testBit b = true ∧ ¬ D 137 e = b ∧ ¬ xD D m e b = 0)) m) k ≤ 16 * k := by
    intro k
    induction k with
    | zero => simp [sumN]
    | succ k ih =>
      have := h1 k
      show 0 ≤ sumN _ k + sumN _ m ∧ sumN _ k + sumN _ m ≤ 16 * ((k + 1 : Nat) : Int)
      omega
  have := key nb
  unfold cwD
  omega
theorem cw_m {D1 : Sto} (h : m2 D1 D) (S : Nat) : cwD D1 nb m S = cwD D nb m S := by
  unfold cwD
  rw [h.1.2.2.2.1]
  apply sumN_ex
  intro b _
  apply sumN_ex
  intro e _
  rw [xD_m h]
theorem ts_cover (R : Rel D) (d : Nat) (w : Int) : tws xs n (d + 60) 0 156 287 [(0, w)] D := by
  have R0 := R
  obtain ⟨nb, m, K, X⟩ := R
  obtain ⟨G, hB, hS, h46, h45, hRB⟩ := RelK_G K
  have h8 := G.1.2.1
  have h16 := G.1.2.2.2.1
  obtain ⟨ck, c1, c2, c3, c4⟩ := ck0 X.2.2.2.1 h8
  obtain ⟨G', hB', hS', hR'⟩ := tk_rel K
  obtain ⟨⟨p2, p3⟩, p1⟩ := X.2.1.2.1
  have elim : ((D 26 6).toNat : Int) = D 26 6 := by omega
  have B0 : BS (up (tkS D) 129 0 0) nb m := m2_BS m2_0 (tk_BS K X)
  have mm0 : m2 (up (tkS D) 129 0 0) D := m2_t m2_0 tk_m2
  have hmz : nb = 0 → m = 0 := by
    intro hz
    apply Classical.byContradiction
    intro q
    have := (G.2.1.2.2.2.2 0 (by omega)).1
    omega
  have hic : ∀ k : Nat, k < nb → 0 ≤ tkS D 34 k ∧ tkS D 34 k ≤ 16 := by
    intro k hk
    have t := cntE_b (tkS D 137) k m
    rw [G'.2.2.2 k hk]
    omega
  have cl : ∀ x, Rn (d + 59) 156 25 [some (2, 1), some (0, w)] [] (Sg xs n (tkS D)) = x → (0 ≤ w ∧ w ≤ 3) → den (d + 60) 156 [(2, 1), (0, w)] (Sg xs n D) = x := by
    intro x hx hw
    rw [n156, h156_0, c179, bB_t hw, cK0, pR0, h156_6, if_pos (by decide), c96, cK9]
    exact hx
  have e99 : den (d + 59) 99 [(2, 54)] (Sg xs n (tkS D)) = some ((0, w32 ((m : Int) * w32 ((nb : Int) - 1))), Sg xs n (tkS D)) := by
    rw [n99, h99_0, G'.1.1, G'.1.2.2.1]
  have emul : (m : Int) * ((nb : Int) - 1) ≤ 128 ∧ -128 ≤ (m : Int) * ((nb : Int) - 1) := by
    by_cases hz : nb = 0
    · rw [hmz hz]; simp
    · have : (m : Int) * ((nb : Int) - 1) ≤ 16 * 7 := Int.mul_le_mul (by omega) (by omega) (by omega) (by omega)
      have : 0 ≤ (m : Int) * ((nb : Int) - 1) := Int.mul_nonneg (by omega) (by omega)
      omega
  have e99' : w32 ((m : Int) * w32 ((nb : Int) - 1)) = (m : Int) * ((nb : Int) - 1) := by
    rw [w32_idP (z := (nb : Int) - 1) (by omega) (by omega), w32_idP (by omega) (by omega)]
  by_cases v0 : w = 0
  · subst v0
    refine tws_sim R0 (D1 := tkS D) (D2 := up (tkS D) 129 0 0) (a := (m : Int) * ((nb : Int) - 1)) (cl _ ?_ (by omega)) ?_ (sim_t sim_0 sim_tk)
    · rw [h156_25, if_pos rfl, e99, cK0, pR0, h156_59, e99']
    · rw [n287, h287_0, if_pos rfl, tk_ne (by decide) (by decide), tk_ne (by decide) (by decide), G.2.1.1, G.2.1.2.2.1, c321n, cK0, pR0, h287_54, w32_idP (z := (nb : Int) - 1) (by omega) (by omega)]
      by_cases hz : nb = 0
      · rw [hmz hz, hz]
        rfl
      · rw [Int.max_eq_right (by omega), w32_idP (by omega) (by omega)]
  by_cases v1 : w = 1
  · subst v1
    have e1 := c100 (xs := xs) (n := n) (D := tkS D) (d + 53) G'.1
    have e2 := c285 (xs := xs) (n := n) (D := up (tkS D) 129 0 0) (d + 52) B0.1.1 B0.1.2
    have es : sumN (fun b => ((cntP (lrP (tkS D) b) m : Nat) : Int)) nb = sumN (fun e => sumN (fun b => bB (¬ up (tkS D) 129 0 0 137 e = b ∧ rmk (up (tkS D) 129 0 0) m e b = rsg (up (tkS D) 129 0 0) 0 b)) nb) m := by
      rw [sum_swap (fun e b => bB (¬ up (tkS D) 129 0 0 137 (e : Int) = (b : Int) ∧ rmk (up (tkS D) 129 0 0) m e b = rsg (up (tkS D) 129 0 0) 0 b)) nb m]
      apply sumN_ex
      intro b hb
      rw [cntP_sum]
      apply sumN_ex
      intro e he
      have t := tk_lr K X he hb
      have t3 : tkS D 32 e = up (tkS D) 129 0 0 137 e := by rw [(G'.2.2.1 e he).2, up_ne (by decide)]
      have t4 := (xD_s B0 he hb).2.2
      rw [xD_m mm0] at t4
      have t5 : lrP (tkS D) b e = true ↔ ¬ up (tkS D) 129 0 0 137 e = b ∧ rmk (up (tkS D) 129 0 0) m e b = rsg (up (tkS D) 129 0 0) 0 b := by
        unfold lrP
        rw [Bool.and_eq_true, decide_eq_true_eq, decide_eq_true_eq, t3, t, t4]
      by_cases q : lrP (tkS D) b e = true
      · rw [bB_t q, bB_t (t5.mp q)]
      · rw [bB_f q, bB_f (fun z => q (t5.mpr z))]
    refine tws_sim R0 (D1 := tkS D) (D2 := up (tkS D) 129 0 0) (a := sumN (fun b => ((cntP (lrP (tkS D) b) m : Nat) : Int)) nb) (cl _ ?_ (by omega)) ?_ (sim_t sim_0 sim_tk)
    · rw [h156_25, if_neg (by decide), if_pos rfl, e1, cK0, pR0, h156_67]
    · rw [n287, h287_0, if_neg (by decide), if_pos rfl, e2, cK0, pR0, h287_60, es]
  have hckD : up (tkS D) 129 0 0 153 0 = ck := by rw [up_ne (by decide), tk_ne (by decide) (by decide)]; exact c2
  by_cases v2 : w = 2
  · subst v2
    have e1 := c107 (xs := xs) (n := n) (D := tkS D) (d + 52) (D 26 6).toNat ck G'.1 (NX_tk K X) (by omega) (by omega) c3 hic
    rw [wr_sum K X, elim] at e1
    obtain ⟨D1, G2, ⟨a1, a2, a3⟩, a4, a5, a6⟩ := c283 (xs := xs) (n := n) (d + 26) ck B0 c4
    have mm : m2 D1 D := m2_t (ofN_m2 a1) mm0
    have hl : nb = 0 ∨ D1 131 3 = ((D 26 6).toNat : Int) := by rw [mm.1.1]; omega
    rw [qC_sum a3.1.1 c4 hl (by omega), cw_m mm, nxD_m mm] at a6
    refine tws_sim R0 (D1 := tkS D) (D2 := G2) (a := cwD D nb m (frcI (nxD D m) nb ck (min ((D 26 6).toNat - 1) nb))) (cl _ ?_ (by omega)) ?_ (sim_t (sim_kp a4) (sim_t (sim_ofN a1) (sim_t sim_0 sim_tk)))
    · rw [h156_25, if_neg (by decide), if_neg (by decide), if_pos rfl, tk_ne (by decide) (by decide), tk_ne (by decide) (by decide), c1, e1, cK0, pR0, h156_89]
    · rw [n287, h287_0, if_neg (by decide), if_neg (by decide), if_pos rfl, tk_ne (by decide) (by decide), c2, a6, cK0, pR0, h287_71]
  by_cases v3 : w = 3
  · subst v3
    have e1 := c107 (xs := xs) (n := n) (D := tkS D) (d + 52) 40 ck G'.1 (NX_tk K X) (by omega) (by omega) c3 hic
    rw [wr_sum K X] at e1
    obtain ⟨D1, G2, ⟨a1, a3⟩, a4, a6⟩ := c286 (xs := xs) (n := n) (d + 26) ck B0 hckD c4
    have mm : m2 D1 D := m2_t (ofN_m2 a1) mm0
    rw [nv_eq a3.1.1 c4, cw_m mm, nxD_m mm] at a6
    have hcw := cw_b (D := D) (S := frcI (nxD D m) nb ck (min 39 nb)) h8 h16
    refine tws_sim R0 (D1 := tkS D) (D2 := G2) (a := (m : Int) * ((nb : Int) - 1) - cwD D nb m (frcI (nxD D m) nb ck (min 39 nb))) (cl _ ?_ (by omega)) ?_ (sim_t (sim_kp a4) (sim_t (sim_ofN a1) (sim_t sim_0 sim_tk)))
    · have e1' : den (d + 59) 107 [(2, 54), (0, 40), (0, (ck : Int))] (Sg xs n (tkS D)) = some ((0, cwD D nb m (frcI (nxD D m) nb ck (min 39 nb))), Sg xs n (tkS D)) := e1
      rw [h156_25, if_neg (by decide), if_neg (by decide), if_neg (by decide), e99, cK0, pR0, h156_97, tk_ne (by decide) (by decide), c1, e1', cK0, pR0, h156_113, e99', w32_idP (by omega) (by omega)]
    · rw [n287, h287_0, if_neg (by decide), if_neg (by decide), if_neg (by decide), if_pos rfl, a6, cK0, pR0, h287_76]
  · refine tws_sim R0 (D1 := D) (D2 := up D 129 0 0) (a := -1) ?_ ?_ sim_0
    · rw [n156, h156_0, c179, bB_f (by omega), cK0, pR0, h156_6, if_neg (by decide)]
    · rw [n287, h287_0, if_neg v0, if_neg v1, if_neg v2, if_neg v3]
end S76
