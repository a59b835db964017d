/-! Twins: slip, count, block, alike -/
def blv (D : Sto) (m ck : Nat) (b w : Int) : Int := if w = 0 then D 154 b else if w = 1 then D 134 b else if w = 2 then bB (ck.testBit b.toNat = true) else if w = 3 then D 155 b else if w = 4 then cntE (D 136) b m else cntE (D 137) b m
def alk (f : Int → Int) (nb : Nat) : Int := sumN (fun a => sumN (fun b => bB (f a = f b)) a) nb
theorem alk_b (f : Int → Int) : ∀ k : Nat, k ≤ 8 → 0 ≤ sumN (fun a => sumN (fun b => bB (f a = f b)) a) k ∧ sumN (fun a => sumN (fun b => bB (f a = f b)) a) k ≤ 8 * k := by
  intro k
  induction k with
  | zero => intro _; simp [sumN]
  | succ k ih =>
    intro hk
    have h1 := ih (by omega)
    have h2 := sumB_b (fun b : Nat => f k = f b) k
    show 0 ≤ sumN (fun a => sumN (fun b => bB (f a = f b)) a) k + sumN (fun b => bB (f k = f b)) k ∧ sumN (fun a => sumN (fun b => bB (f a = f b)) a) k + sumN (fun b => bB (f k = f b)) k ≤ 8 * ((k + 1 : Nat) : Int)
    omega
theorem sumN_ex {f g : Nat → Int} : ∀ k, (∀ j, j < k → f j = g j) → sumN f k = sumN g k := by
  intro k
  induction k with
  | zero => intro _; rfl
  | succ k ih =>
    intro h
    unfold sumN
    rw [ih (fun j hj => h j (by omega)), h k (by omega)]
theorem alk_ex {f g : Int → Int} {nb : Nat} (h : ∀ k : Nat, k < nb → f k = g k) : alk f nb = alk g nb := by
  unfold alk
  apply sumN_ex
  intro a ha
  apply sumN_ex
  intro b hb
  rw [h a ha, h b (by omega)]
section T62
variable {xs : Int → Int} {n : Int × Int} {D F : Sto} {nb m : Nat}
theorem tk_rel (K : RelK D nb m) : GE (tkS D) (tkS D) nb m ∧ BE (tkS D 56) (tkS D) nb m ∧ SE (tkS D 55) (tkS D) nb 0 ∧ RB (tkS D) nb m := by
  have K' := RelK_sim K (sim_tk (D := D))
  obtain ⟨g, hB, hS, h46, h45, hR⟩ := RelK_G K'
  have h8 := g.1.2.1
  refine ⟨g, ?_, ?_, hR⟩
  · intro b hb
    have := hB b hb
    rw [tk_56 (by omega) (by omega)]
    rw [tk_f (c := 36) (by decide) (by decide)] at this
    exact this
  · intro b hb
    have := hS b hb
    rw [tk_55 (by omega) (by omega)]
    rw [tk_f (c := 47) (by decide) (by decide)] at this
    exact this
theorem tk_mk (K : RelK D nb m) {e b : Nat} (he : e < m) (hb : b < nb) : mkD (tkS D) e b = rmk (tkS D) m e b := by
  obtain ⟨g, hB, hS, hR⟩ := tk_rel K
  unfold mkD
  rw [g.1.1]
  exact mk_eq g hB hS he hb
theorem c8' (d : Nat) (e b : Int) (H : EG D nb m) : den (d + 2) 8 [(2, 30), (0, e), (0, b)] (Sg xs n D) = some ((0, bB ((0 ≤ e ∧ e < (m : Int)) ∧ (0 ≤ b ∧ b < (nb : Int)) ∧ ¬ D 32 e = b)), Sg xs n D) := by
  have := c8 (xs := xs) (n := n) (D := D) d e b (by rw [H.2.2.1]; have := H.2.2.2.1; omega)
  rw [H.1, H.2.2.1] at this
  exact this
theorem c266' (d : Nat) (e b : Int) (H : RG D nb m) : den (d + 2) 266 [(2, 129), (0, e), (0, b)] (Sg xs n D) = some ((0, bB ((0 ≤ e ∧ e < (m : Int)) ∧ (0 ≤ b ∧ b < (nb : Int)) ∧ ¬ D 137 e = b)), Sg xs n D) := by
  have := c266 (xs := xs) (n := n) (D := D) d e b (by rw [H.2.2.1]; have := H.2.2.2.1; omega)
  rw [H.1, H.2.2.1] at this
  exact this
/-- a slip, in the reference's words -/
def isS (D : Sto) (nb m : Nat) (e b : Int) : Prop := (0 ≤ e ∧ e < (m : Int)) ∧ (0 ≤ b ∧ b < (nb : Int)) ∧ ¬ D 137 e = b
theorem isS_c (G : GE D D nb m) {e b : Int} : ((0 ≤ e ∧ e < (m : Int)) ∧ (0 ≤ b ∧ b < (nb : Int)) ∧ ¬ D 32 e = b) ↔ isS D nb m e b := by
  unfold isS
  constructor
  · intro h
    have := (G.2.2.1 e.toNat (by omega)).2
    rw [Int.toNat_of_nonneg h.1.1] at this
    rw [← this]
    exact h
  · intro h
    have := (G.2.2.1 e.toNat (by omega)).2
    rw [Int.toNat_of_nonneg h.1.1] at this
    rw [this]
    exact h
theorem isS_f (h : F 137 = D 137) {e b : Int} : isS F nb m e b ↔ isS D nb m e b := by
  unfold isS
  rw [h]
theorem cS (d : Nat) (e b : Int) (G : GE D D nb m) (h : isS D nb m e b) : den (d + 2) 8 [(2, 30), (0, e), (0, b)] (Sg xs n D) = some ((0, 1), Sg xs n D) := by
  rw [c8' d e b G.1]
  unfold bB
  rw [if_pos ((isS_c G).mpr h)]
theorem cSn (d : Nat) (e b : Int) (G : GE D D nb m) (h : ¬ isS D nb m e b) : den (d + 2) 8 [(2, 30), (0, e), (0, b)] (Sg xs n D) = some ((0, 0), Sg xs n D) := by
  rw [c8' d e b G.1]
  unfold bB
  rw [if_neg (fun w => h ((isS_c G).mp w))]
theorem rS (d : Nat) (e b : Int) (G : RG D nb m) (h : isS D nb m e b) : den (d + 2) 266 [(2, 129), (0, e), (0, b)] (Sg xs n D) = some ((0, 1), Sg xs n D) := by
  rw [c266' d e b G]
  unfold isS at h
  unfold bB
  rw [if_pos h]
theorem rSn (d : Nat) (e b : Int) (G : RG D nb m) (h : ¬ isS D nb m e b) : den (d + 2) 266 [(2, 129), (0, e), (0, b)] (Sg xs n D) = some ((0, 0), Sg xs n D) := by
  rw [c266' d e b G]
  unfold isS at h
  unfold bB
  rw [if_neg h]
theorem ts_slip (R : Rel D) (d : Nat) (e b : Int) : tws xs n (d + 40) 0 152 269 [(0, e), (0, b)] D := by
  have R0 := R
  obtain ⟨nb, m, K, X⟩ := R
  obtain ⟨G, hB, hS, h46, h45, hRB⟩ := RelK_G K
  by_cases h : isS D nb m e b
  · obtain ⟨G', hB', hS', hR'⟩ := tk_rel K
    have hq : isS (up (tkS D) 129 0 0) nb m e b := (isS_f (by funext j; rw [up_ne (by decide), tk_ne (by decide) (by decide)])).mpr h
    obtain ⟨⟨e0, e1⟩, ⟨b0, b1⟩, _⟩ := h
    have h' : isS D nb m e b := ⟨⟨e0, e1⟩, ⟨b0, b1⟩, by assumption⟩
    have c1 := c97 (xs := xs) (n := n) (d + 36) e.toNat b.toNat G'.1 (show e.toNat < m by omega) (show b.toNat < nb by omega)
    have c2 := c267 (xs := xs) (n := n) (d + 34) e.toNat b.toNat (RG_0 (v := 0) G'.2.1) (RB_0 hR') (show e.toNat < m by omega) (show b.toNat < nb by omega)
    rw [Int.toNat_of_nonneg e0, Int.toNat_of_nonneg b0] at c1 c2
    have c3 := tk_mk K (e := e.toNat) (b := b.toNat) (by omega) (by omega)
    rw [Int.toNat_of_nonneg e0, Int.toNat_of_nonneg b0] at c3
    refine tws_sim R0 (D1 := tkS D) (D2 := up (tkS D) 129 0 0) (a := rmk (tkS D) m e b) ?_ ?_ (sim_t sim_0 sim_tk)
    · rw [n152, h152_0, cS (d + 37) e b G h', cK0, pR0, h152_12, if_pos (by decide), c96]
      show Rn (d + 39) 152 31 [some (2, 1), some (0, e), some (0, b)] [] (Sg xs n (tkS D)) = _
      rw [h152_31, c1, cK0, pR0, h152_40, c3]
    · rw [n269, h269_0, rS (d + 37) e b (RG_0 G'.2.1) hq, cK0, pR0, h269_11, if_neg (by decide), c2, cK0, pR0, h269_20, h269_24, rmk_0]
  · refine tws_sim R0 (D1 := D) (D2 := up D 129 0 0) (a := -1) ?_ ?_ sim_0
    · rw [n152, h152_0, cSn (d + 37) e b G h, cK0, pR0, h152_12, if_neg (by decide)]
    · rw [n269, h269_0, rSn (d + 37) e b (RG_0 G.2.1) (fun w => h ((isS_f (by funext j; rw [up_ne (by decide)])).mp w)), cK0, pR0, h269_11, if_pos rfl, h269_24]
theorem ts_count (R : Rel D) (d : Nat) (w : Int) : tws xs n (d + 40) 0 177 317 [(0, w)] D := by
  have R0 := R
  obtain ⟨nb, m, K, G2_, P, L, U, ⟨u, t, hu, hh⟩, T, Z⟩ := R
  have K0 := K
  obtain ⟨q, q', r, kn, K2⟩ := K
  obtain ⟨⟨g1, g2, g3, g4⟩, hB, hS, h46, h45, hRB⟩ := RelK_G K0
  have h8 := g1.2.1
  obtain ⟨c, c1, c2, c3, c4⟩ := ck0 U h8
  obtain ⟨f1, f2, f3, f4, f5, f6, f7, f8, f9⟩ := U.2
  have hM : mrk (up D 129 0 0) D := mrk_v (by decide)
  have hk : rkC (up D 129 0 0) = rkC D := by
    unfold rkC
    rw [up_ni (by decide), up_ni (by decide)]
  have hkn : knC D = rkC D := by rw [r.2.2.2.2.1.2.1, r.2.2.2.2.1.2.2.1]
  refine tws_sim R0 (D1 := D) (D2 := up D 129 0 0) (a := if w = 0 then (nb : Int) else if w = 1 then (m : Int) else if w = 2 then bcn c else if w = 3 then D 131 6 else if w = 4 then D 144 0 else if w = 5 then (if ¬ (nb : Int) = 0 then D 146 0 else -2) else if w = 6 then D 147 0 else if w = 7 then D 148 0 else if w = 8 then D 149 0 else if w = 9 then D 150 0 else if w = 10 then D 151 0 else if w = 11 then D 152 0 else if w = 12 then (q : Int) else if w = 13 then rkC D else if w = 14 then (u : Int) else -1) ?_ ?_ sim_0
  · simp only [n177, h177_0, n178a, h178a_0, h178a_22, c1, c318 (d + 38) c c3, c55, cK0, pR0, h177_108, h177_136, h177_200, if_sn, if_s, g1.1, g1.2.2.1, P.2.2.2, f2.1, f3.1, f4.1, f5.1, f6.1, f7.1, f7.2.1, f7.2.2, kn.1, hkn, hu.2.2.1]
  · simp only [n317, h317_0, c2, c232 (d + 38) c (show c < 65536 by omega), c306, cK0, pR0, h317_103, h317_139, h317_191, if_sn, if_s, g2.1, g2.2.2.1, kn.2.1, hu.2.2.2.1, hk]
theorem c141 (d c : Nat) (b w : Int) (K : RelK D nb m) (X : RelX D nb m) (hc : D 46 2 = c) (hc2 : c < 256) : den (d + 3) 141 [(2, 1), (0, b), (0, w)] (Sg xs n D) = if 0 ≤ b ∧ b < (nb : Int) then (if 0 ≤ w ∧ w ≤ 5 then some ((0, blv D m c b w), Sg xs n D) else some ((8, 2), Sg xs n D)) else some ((8, 1), Sg xs n D) := by
  obtain ⟨⟨g1, g2, g3, g4⟩, hB, hS, h46, h45, hRB⟩ := RelK_G K
  obtain ⟨G2_, P, L, U, H, T, Z⟩ := X
  have h8 := g1.2.1
  rw [n141, h141_0, c6a, cK0, pR0, h141_11, g1.1]
  by_cases h : 0 ≤ b ∧ b < (nb : Int)
  · have hb : b.toNat < nb := by omega
    have eb : (b.toNat : Int) = b := Int.toNat_of_nonneg h.1
    have i1 := run0 U b.toNat hb
    have i2 := (P.1 b.toNat hb).2.1
    have i3 := (G2_ b.toNat hb).1.1
    have i4 := g4 b.toNat hb
    have i5 := c181 (xs := xs) (n := n) (D := D) (d + 1) c b.toNat (by omega) (by omega)
    rw [eb] at i1 i2 i3 i4 i5
    rw [if_pos (by simp [bB, h]), if_pos h, inb_t h.1 (show b < 8 by omega), hc, i5, cK0, pR0, i1.1.1, i1.2.1, i2, i3, i4]
    simp only [h141_95, h141_103, if_true, bB_if, blv]
    by_cases v0 : w = 0
    · subst v0; rfl
    by_cases v1 : w = 1
    · subst v1; rfl
    by_cases v2 : w = 2
    · subst v2
      by_cases t : c.testBit b.toNat = true <;> simp [t, bB]
    by_cases v3 : w = 3
    · subst v3; rfl
    by_cases v4 : w = 4
    · subst v4; rfl
    by_cases v5 : w = 5
    · subst v5; rfl
    rw [if_neg v0, if_neg v1, if_neg v2, if_neg v3, if_neg v4, if_neg v5, if_neg (by omega)]
  · rw [if_neg (by simp [bB, h]), if_neg h]
theorem c254 (d c : Nat) (b w : Int) (H : RG D nb m) (hc : D 153 0 = c) (hc2 : c < 256) : den (d + 3) 254 [(2, 129), (0, b), (0, w)] (Sg xs n D) = if 0 ≤ b ∧ b < (nb : Int) then (if 0 ≤ w ∧ w ≤ 5 then some ((0, blv D m c b w), Sg xs n (up D 129 0 0)) else some ((0, 0), Sg xs n (up D 129 0 2))) else some ((0, 0), Sg xs n (up D 129 0 1)) := by
  have h8 := H.2.1
  have hM : mrk (up D 129 0 0) D := mrk_v (by decide)
  have H0 : RG (up D 129 0 0) nb m := RG_0 H
  rw [n254, h254_0, c230, cK0, pR0, h254_6, H.1]
  by_cases h : 0 ≤ b ∧ b < (nb : Int)
  · have eb : (b.toNat : Int) = b := Int.toNat_of_nonneg h.1
    have i5 := tb_val (x := c) (b := b.toNat) (by omega) (by omega)
    rw [eb] at i5
    rw [if_pos (by simp [bB, h]), if_pos h]
    by_cases v : 0 ≤ w ∧ w ≤ 5
    · rw [if_neg (by omega), if_pos (by omega), if_pos v, h254_27, if_pos rfl, c235 (d + 1) b m H0.2.2.1 H.2.2.2.1, c234 (d + 1) b m H0.2.2.1 H.2.2.2.1, cK0, pR0, cK0, pR0, h254_113, h254_119, inb_t h.1 (show b < 184 by omega), inb_t h.1 (show b < 16 by omega), hc, i5, hM.2.2.1, hM.2.2.2.1]
      simp only [if_true, if_s, blv]
    · simp only [h254_22, h254_27]
      rw [if_neg v, if_neg (show ¬ (2 : Int) = 0 by decide)]
      (repeat' split) <;> first | rfl | (exfalso; omega)
  · rw [if_neg (by simp [bB, h]), if_neg h, h254_27, if_neg (by decide)]
theorem alk_step (f : Int → Int) (a k : Nat) : sumN (fun b => bB (f a = f b)) (k + 1) = sumN (fun b => bB (f a = f b)) k + bB (f a = f k) := rfl
theorem c166 (d : Nat) (hnb : D 30 0 = nb) (h8 : nb ≤ 8) : den (d + 1) 166 [(2, 1)] (Sg xs n D) = some ((0, alk (D 47) nb), Sg xs n D) := by
  have inner : ∀ (a : Nat), a < nb → ∀ (k : Nat) (s : Int), k ≤ a → 0 ≤ s → s ≤ 8 * a → Rn d 166 20 [some (2, 1), some (0, s + sumN (fun b => bB (D 47 a = D 47 b)) (a - k)), some (0, (a : Int)), some (0, ((a - k : Nat) : Int))] [] (Sg xs n D) = Rn d 166 4 [some (2, 1), some (0, s + sumN (fun b => bB (D 47 a = D 47 b)) a), some (0, ((a + 1 : Nat) : Int)), some (0, (a : Int))] [] (Sg xs n D) := by
    intro a ha k
    induction k with
    | zero =>
      intro s _ h0 h1
      rw [Nat.sub_zero, h166_20, if_pos (by omega), w1 (by omega)]
    | succ k ih =>
      intro s hk h0 h1
      have hs := sumB_b (fun b : Nat => D 47 a = D 47 b) (a - (k + 1))
      have hrec := ih s (by omega) h0 h1
      have ek : a - k = a - (k + 1) + 1 := by omega
      rw [h166_20, if_neg (by omega), if_pos (inb_t (by omega) (by omega)), if_pos (inb_t (by omega) (by omega))]
      simp only [h166_49, w1 (show a - (k + 1) < 2147483647 by omega)]
      rw [← hrec, ek, alk_step]
      by_cases c1 : D 47 a = D 47 ((a - (k + 1) : Nat) : Int)
      · rw [if_neg (by simp [c1]), w32_idP (by omega) (by omega), show bB (D 47 a = D 47 ((a - (k + 1) : Nat) : Int)) = 1 by simp [bB, c1], Int.add_assoc]
      · rw [if_pos c1, show bB (D 47 a = D 47 ((a - (k + 1) : Nat) : Int)) = 0 by simp [bB, c1], Int.add_zero]
  have outer : ∀ (k : Nat) (o3 : Option Vv), k ≤ nb → Rn d 166 4 [some (2, 1), some (0, alk (D 47) (nb - k)), some (0, ((nb - k : Nat) : Int)), o3] [] (Sg xs n D) = some ((0, alk (D 47) nb), Sg xs n D) := by
    intro k
    induction k with
    | zero =>
      intro o3 _
      rw [Nat.sub_zero, h166_4, hnb, if_pos (by omega)]
    | succ k ih =>
      intro o3 hk
      have hs := alk_b (D 47) (nb - (k + 1)) (by omega)
      have i1 := inner (nb - (k + 1)) (by omega) (nb - (k + 1)) (alk (D 47) (nb - (k + 1))) (Nat.le_refl _) hs.1 hs.2
      rw [Nat.sub_self, show sumN (fun b => bB (D 47 ((nb - (k + 1) : Nat) : Int) = D 47 b)) 0 = 0 from rfl, Int.add_zero] at i1
      have ek : nb - (k + 1) + 1 = nb - k := by omega
      have es : alk (D 47) (nb - (k + 1)) + sumN (fun b => bB (D 47 ((nb - (k + 1) : Nat) : Int) = D 47 b)) (nb - (k + 1)) = alk (D 47) (nb - k) := by rw [← ek]; rfl
      rw [es, ek] at i1
      rw [h166_4, hnb, if_neg (by omega)]
      exact i1.trans (ih _ (by omega))
  rw [n166, h166_0]
  have := outer nb none (Nat.le_refl _)
  rw [Nat.sub_self] at this
  exact this
theorem c302 (d : Nat) (hnb : D 131 0 = nb) (h8 : nb ≤ 8) : den (d + 1) 302 [(2, 129)] (Sg xs n D) = some ((0, alk (D 154) nb), Sg xs n (up D 129 0 0)) := by
  have e131 : up D 129 0 0 131 0 = nb := by rw [up_ne (by decide)]; exact hnb
  have e154 : up D 129 0 0 154 = D 154 := funext (fun j => up_ne (by decide))
  have inner : ∀ (a : Nat), a < nb → ∀ (k : Nat) (s : Int), k ≤ a → 0 ≤ s → s ≤ 8 * a → Rn d 302 21 [some (2, 129), some (0, s + sumN (fun b => bB (D 154 a = D 154 b)) (a - k)), some (0, (a : Int)), some (0, ((a - k : Nat) : Int))] [] (Sg xs n (up D 129 0 0)) = Rn d 302 9 [some (2, 129), some (0, s + sumN (fun b => bB (D 154 a = D 154 b)) a), some (0, ((a + 1 : Nat) : Int)), some (0, (a : Int))] [] (Sg xs n (up D 129 0 0)) := by
    intro a ha k
    induction k with
    | zero =>
      intro s _ h0 h1
      rw [Nat.sub_zero, h302_21, if_pos (by omega), w1 (by omega)]
    | succ k ih =>
      intro s hk h0 h1
      have hs := sumB_b (fun b : Nat => D 154 a = D 154 b) (a - (k + 1))
      have hrec := ih s (by omega) h0 h1
      have ek : a - k = a - (k + 1) + 1 := by omega
      rw [h302_21, if_neg (by omega), if_pos (inb_t (by omega) (by omega)), if_pos (inb_t (by omega) (by omega)), e154]
      simp only [h302_47, w1 (show a - (k + 1) < 2147483647 by omega)]
      rw [← hrec, ek, alk_step]
      by_cases c1 : D 154 a = D 154 ((a - (k + 1) : Nat) : Int)
      · rw [if_neg (by simp [c1]), w32_idP (by omega) (by omega), show bB (D 154 a = D 154 ((a - (k + 1) : Nat) : Int)) = 1 by simp [bB, c1], Int.add_assoc]
      · rw [if_pos c1, w32_idP (by omega) (by omega), show bB (D 154 a = D 154 ((a - (k + 1) : Nat) : Int)) = 0 by simp [bB, c1], Int.add_zero, Int.add_zero]
  have outer : ∀ (k : Nat) (o3 : Option Vv), k ≤ nb → Rn d 302 9 [some (2, 129), some (0, alk (D 154) (nb - k)), some (0, ((nb - k : Nat) : Int)), o3] [] (Sg xs n (up D 129 0 0)) = some ((0, alk (D 154) nb), Sg xs n (up D 129 0 0)) := by
    intro k
    induction k with
    | zero =>
      intro o3 _
      rw [Nat.sub_zero, h302_9, e131, if_pos (by omega)]
    | succ k ih =>
      intro o3 hk
      have hs := alk_b (D 154) (nb - (k + 1)) (by omega)
      have i1 := inner (nb - (k + 1)) (by omega) (nb - (k + 1)) (alk (D 154) (nb - (k + 1))) (Nat.le_refl _) hs.1 hs.2
      rw [Nat.sub_self, show sumN (fun b => bB (D 154 ((nb - (k + 1) : Nat) : Int) = D 154 b)) 0 = 0 from rfl, Int.add_zero] at i1
      have ek : nb - (k + 1) + 1 = nb - k := by omega
      have es : alk (D 154) (nb - (k + 1)) + sumN (fun b => bB (D 154 ((nb - (k + 1) : Nat) : Int) = D 154 b)) (nb - (k + 1)) = alk (D 154) (nb - k) := by rw [← ek]; rfl
      rw [es, ek] at i1
      rw [h302_9, e131, if_neg (by omega)]
      exact i1.trans (ih _ (by omega))
  rw [n302, h302_0]
  have := outer nb none (Nat.le_refl _)
  rw [Nat.sub_self] at this
  exact this
theorem ts_alike (R : Rel D) (d : Nat) : tws xs n (d + 40) 0 166 302 [] D := by
  have R0 := R
  obtain ⟨nb, m, K, X⟩ := R
  obtain ⟨⟨g1, g2, g3, g4⟩, hB, hS, h46, h45, hRB⟩ := RelK_G K
  have e1 := c166 (xs := xs) (n := n) (D := D) (d + 39) g1.1 g1.2.1
  have e2 := c302 (xs := xs) (n := n) (D := D) (d + 39) g2.1 g2.2.1
  have e3 : alk (D 47) nb = alk (D 154) nb := alk_ex (fun k hk => (run0 X.2.2.2.1 k hk).1.1)
  rw [e3] at e1
  exact tws_sim R0 e1 e2 sim_0
end T62
