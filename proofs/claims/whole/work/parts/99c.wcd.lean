/-! Text: a word's code and the list of words -/
def cKw (w : Nat) : Int := if w ≤ 10 then -(2 + (w : Int)) else if w ≤ 13 then -(9 + (w : Int)) else -((w : Int) - 1)
def wcd (t : Nat) : Nat := vwN wb ((wS t : Nat) : Int) (wM t) 6
theorem wcT : ∀ t : Fin 21, lkT ((wcd t.val : Nat) : Int) (-37) = cKw t.val := by decide +kernel
theorem wcL : ∀ t : Fin 21, wM t.val ≤ 6 ∧ 0 < wM t.val := by decide +kernel
theorem wcI : ∀ t : Fin 21, ∀ q : Fin 6, q.val < wM t.val → isL (wb (((wS t.val : Nat) : Int) + ((q.val : Nat) : Int))) = true := by decide +kernel
theorem wcU : ∀ i : Fin 38, (∃ t : Fin 21, kf 1 (kAll ((i.val : Nat) : Int)) = ((wcd t.val : Nat) : Int)) ∨ kf 1 (kAll ((i.val : Nat) : Int)) < 33554432 := by decide +kernel
def dgN (f : Int → Int) (st : Int) (len q : Nat) : Nat := if q < len then (f (st + q) - 96).toNat else 0
theorem dg_b {f : Int → Int} {st : Int} {len : Nat} (h : ∀ p : Nat, p < len → isL (f (st + p)) = true) (q : Nat) : dgN f st len q < 32 := by
  unfold dgN
  by_cases c : q < len
  · have := isL_b (h q c)
    rw [if_pos c]
    omega
  · rw [if_neg c]
    omega
theorem vw_s {f : Int → Int} {st : Int} {len p : Nat} : vwN f st len (p + 1) = vwN f st len p * 32 + dgN f st len p := rfl
theorem vw_dig {f g : Int → Int} {st st' : Int} {len len' : Nat} (h : ∀ p : Nat, p < len → isL (f (st + p)) = true) (h' : ∀ p : Nat, p < len' → isL (g (st' + p)) = true) : ∀ p : Nat, vwN f st len p = vwN g st' len' p → ∀ q : Nat, q < p → dgN f st len q = dgN g st' len' q := by
  intro p
  induction p with
  | zero => intro _ q hq; omega
  | succ p ih =>
    intro e q hq
    rw [vw_s, vw_s] at e
    have b1 := dg_b h p
    have b2 := dg_b h' p
    by_cases c : q = p
    · subst c
      omega
    · exact ih (by omega) q (by omega)
theorem vw_eq {f g : Int → Int} {st st' : Int} {len : Nat} (h : ∀ p : Nat, p < len → f (st + p) = g (st' + p)) : ∀ p : Nat, vwN f st len p = vwN g st' len p := by
  intro p
  induction p with
  | zero => rfl
  | succ p ih =>
    rw [vw_s, vw_s, ih]
    unfold dgN
    by_cases c : p < len
    · rw [if_pos c, if_pos c, h p c]
    · rw [if_neg c, if_neg c]
theorem vw_pad {f : Int → Int} {st : Int} {len : Nat} : ∀ k : Nat, vwN f st len (len + k) = vwN f st len len * 32 ^ k := by
  intro k
  induction k with
  | zero => rw [Nat.pow_zero, Nat.mul_one]; rfl
  | succ k ih =>
    rw [show len + (k + 1) = (len + k) + 1 from rfl, vw_s, ih, Nat.pow_succ, Nat.mul_assoc]
    unfold dgN
    rw [if_neg (by omega)]
    rfl
theorem cd_6 {f : Int → Int} {st : Int} {len : Nat} (h : len ≤ 6) : cdP f st len len = ((vwN f st len 6 : Nat) : Int) := by
  unfold cdP
  rw [Nat.min_eq_left h, ← vw_pad, show len + (6 - len) = 6 by omega]
theorem vw_big {f : Int → Int} {st : Int} {len : Nat} (h : ∀ p : Nat, p < len → isL (f (st + p)) = true) (h0 : 0 < len) : 33554432 ≤ vwN f st len 6 := by
  have e1 : vwN f st len 1 = 0 * 32 + dgN f st len 0 := vw_s
  have e2 : vwN f st len 2 = vwN f st len 1 * 32 + dgN f st len 1 := vw_s
  have e3 : vwN f st len 3 = vwN f st len 2 * 32 + dgN f st len 2 := vw_s
  have e4 : vwN f st len 4 = vwN f st len 3 * 32 + dgN f st len 3 := vw_s
  have e5 : vwN f st len 5 = vwN f st len 4 * 32 + dgN f st len 4 := vw_s
  have e6 : vwN f st len 6 = vwN f st len 5 * 32 + dgN f st len 5 := vw_s
  have b : 1 ≤ dgN f st len 0 := by
    have := isL_b (h 0 h0)
    unfold dgN
    rw [if_pos h0]
    omega
  omega
theorem lkF_no {code df : Int} : ∀ (r i : Nat), i + r = 38 → (∀ j : Nat, i ≤ j → j < 38 → ¬ kf 1 (kAll (j : Int)) = code) → lkF code df r (i : Int) = df := by
  intro r
  induction r with
  | zero => intro i _ _; rfl
  | succ r ih =>
    intro i hi h
    rw [show lkF code df (r + 1) (i : Int) = if kf 1 (kAll (i : Int)) = code then kAll (i : Int) else lkF code df r ((i : Int) + 1) from rfl, if_neg (h i (by omega) (by omega))]
    exact ih (i + 1) (by omega) (fun j a b => h j (by omega) b)
theorem wd_spec {f : Int → Int} {st : Int} {len : Nat} : ∀ (r t : Nat), t + r = 21 → (wdF f st len r t = -1 ∧ ∀ s : Nat, t ≤ s → s < 21 → ¬ mtP f st len s) ∨ (∃ s : Nat, t ≤ s ∧ s < 21 ∧ wdF f st len r t = (s : Int) ∧ mtP f st len s) := by
  intro r
  induction r with
  | zero => intro t ht; exact Or.inl ⟨rfl, fun s a b => by omega⟩
  | succ r ih =>
    intro t ht
    rw [show wdF f st len (r + 1) t = if mtB f st len t = true then (t : Int) else wdF f st len r (t + 1) from rfl]
    by_cases c : mtB f st len t = true
    · rw [if_pos c]
      exact Or.inr ⟨t, by omega, by omega, rfl, mt_iff.mp c⟩
    · rw [if_neg c]
      obtain ⟨a, b⟩ | ⟨s, a, b, e, g⟩ := ih (t + 1) (by omega)
      · refine Or.inl ⟨a, fun s h1 h2 => ?_⟩
        by_cases q : s = t
        · subst q
          exact fun z => c (mt_iff.mpr z)
        · exact b s (by omega) h2
      · exact Or.inr ⟨s, by omega, b, e, g⟩
theorem vw_inj {f g : Int → Int} {st st' : Int} {len len' : Nat} (h : ∀ p : Nat, p < len → isL (f (st + p)) = true) (h' : ∀ p : Nat, p < len' → isL (g (st' + p)) = true) (h6 : len ≤ 6) (h6' : len' ≤ 6) (e : vwN f st len 6 = vwN g st' len' 6) : len = len' ∧ ∀ q : Nat, q < len' → f (st + q) = g (st' + q) := by
  have dg := vw_dig h h' 6 e
  have el : len = len' := by
    by_cases c : len < len'
    · have := dg len (by omega)
      have q := isL_b (h' len c)
      unfold dgN at this
      rw [if_neg (by omega), if_pos c] at this
      omega
    · by_cases c2 : len' < len
      · have := dg len' (by omega)
        have q := isL_b (h _ c2)
        unfold dgN at this
        rw [if_pos c2, if_neg (by omega)] at this
        omega
      · omega
  refine ⟨el, fun q hq => ?_⟩
  have := dg q (by omega)
  have q1 := isL_b (h q (by omega))
  have q2 := isL_b (h' q hq)
  unfold dgN at this
  rw [if_pos (by omega), if_pos hq] at this
  omega
theorem cast_add {a b : Nat} : ((a + b : Nat) : Int) = (a : Int) + (b : Int) := Int.natCast_add a b
/-- the class's constant of a word, by the reference's number of it -/
theorem wd_code {f : Int → Int} {st : Int} {len : Nat} (h : ∀ p : Nat, p < len → isL (f (st + p)) = true) (h0 : 0 < len) (h6 : len ≤ 6) : (wdF f st len 21 0 = -1 ∧ lkT (cdP f st len len) (-37) = -37) ∨ (∃ w : Nat, w < 21 ∧ wdF f st len 21 0 = (w : Int) ∧ lkT (cdP f st len len) (-37) = cKw w) := by
  rw [cd_6 h6]
  have hb := vw_big h h0
  obtain ⟨a, b⟩ | ⟨s, _, b, e, g⟩ := wd_spec (f := f) (st := st) (len := len) 21 0 rfl
  · refine Or.inl ⟨a, ?_⟩
    have hpos : 0 < ((vwN f st len 6 : Nat) : Int) := by
      clear a b
      omega
    unfold lkT
    rw [if_pos hpos]
    refine lkF_no 38 0 rfl (fun j _ hj z => ?_)
    have u := wcU ⟨j, hj⟩
    have u' : (∃ t : Fin 21, kf 1 (kAll ((j : Nat) : Int)) = ((wcd t.val : Nat) : Int)) ∨ kf 1 (kAll ((j : Nat) : Int)) < 33554432 := u
    rw [z] at u'
    obtain ⟨t, ht⟩ | u' := u'
    · have ht' : vwN f st len 6 = vwN wb ((wS t.val : Nat) : Int) (wM t.val) 6 := Int.ofNat.inj ht
      have wl := wcL t
      have wi : ∀ p : Nat, p < wM t.val → isL (wb (((wS t.val : Nat) : Int) + (p : Int))) = true := fun p hp => wcI t ⟨p, Nat.lt_of_lt_of_le hp wl.1⟩ hp
      have ij := vw_inj h wi h6 wl.1 ht'
      refine b t.val (Nat.zero_le _) t.isLt ⟨ij.1, fun q hq => ?_⟩
      rw [cast_add]
      exact ij.2 q hq
    · clear u a b z
      omega
  · refine Or.inr ⟨s, b, e, ?_⟩
    have ev : vwN f st len 6 = wcd s := by
      unfold wcd
      obtain ⟨g1, g2⟩ := g
      rw [g1]
      refine vw_eq (fun p hp => ?_) 6
      rw [g2 p hp, cast_add]
    rw [ev]
    exact wcT ⟨s, b⟩
theorem wd_long {f : Int → Int} {st : Int} {len : Nat} (h6 : 6 < len) : wdF f st len 21 0 = -1 := by
  obtain ⟨a, b⟩ | ⟨s, _, b, e, g⟩ := wd_spec (f := f) (st := st) (len := len) 21 0 rfl
  · exact a
  · have w := (wcL ⟨s, b⟩).1
    have g1 := g.1
    exact absurd (g1 ▸ h6 : 6 < wM s) (Nat.not_lt.mpr w)
