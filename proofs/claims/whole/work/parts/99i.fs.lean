/-! Text: a formula's state on both sides -/
theorem okK_0 {k : Int} (h : okK k = true) : okK0 k = true := by
  unfold okK0
  rw [h, Bool.or_true]
theorem okK_b {k : Int} (h1 : -39 ≤ k) (h2 : k ≤ -2) : okK k = true := by
  unfold okK
  rw [Bool.and_eq_true, decide_eq_true_eq, decide_eq_true_eq]
  exact ⟨h1, h2⟩
def ok20 (C : Sto) : Prop := ∀ k : Nat, k < 64 → okK0 (C 20 k) = true
theorem hgt_c {ks kv ks' kv' : Int → Int} {s : Int} : ∀ k : Nat, (∀ i : Nat, i < k → ks' (s + i) = ks (s + i) ∧ kv' (s + i) = kv (s + i)) → hgt ks' kv' s k = hgt ks kv s k := by
  intro k
  induction k with
  | zero => intro _; rfl
  | succ k ih =>
    intro h
    rw [show hgt ks' kv' s (k + 1) = (hgt ks' kv' s k).bind (fun h => stH (ks' (s + k)) (kv' (s + k)) h) from rfl, show hgt ks kv s (k + 1) = (hgt ks kv s k).bind (fun h => stH (ks (s + k)) (kv (s + k)) h) from rfl, ih (fun i hi => h i (by omega)), (h k (by omega)).1, (h k (by omega)).2]
theorem hgt_n {ks kv : Int → Int} {s : Int} {k h : Nat} (e : hgt ks kv s k = some h) : hgt ks kv s (k + 1) = stH (ks (s + k)) (kv (s + k)) h := by
  rw [show hgt ks kv s (k + 1) = (hgt ks kv s k).bind (fun h => stH (ks (s + k)) (kv (s + k)) h) from rfl, e]
  rfl
def FS (N : Int) (s h a p i o c w : Nat) (C R : Sto) : Prop := RTk N C R ∧ (R 129 21 = 0 ∧ C 2 2 = 0 ∧ C 2 3 = -1 ∧ R 129 22 = -1) ∧ ((C 2 6 = o ∧ R 129 25 = o ∧ o ≤ 8) ∧ (C 19 0 = c ∧ R 129 26 = c ∧ c ≤ 64) ∧ (C 19 6 = w ∧ R 131 13 = ((w + p : Nat) : Int)) ∧ (C 2 5 = ((a + p : Nat) : Int) ∧ o ≤ a ∧ w + (a + p) = c + o)) ∧ (∀ t : Nat, t < w → knP (C 20 t) (C 21 t) (R 140 (64 + t)) (R 141 (64 + t))) ∧ (∀ t : Nat, t < p → R 140 (64 + ((w + t : Nat) : Int)) = 2 ∧ sgP (C 25 ((a + (p - 1 - t) : Nat) : Int)) (R 141 (64 + ((w + t : Nat) : Int)))) ∧ ok20 C ∧ (s ≤ w ∧ hgt (R 140) (R 141) (64 + s) (w + p - s) = some h) ∧ ((i : Int) < C 3 3 ∧ (¬ C 3 4 = -38 → (i : Int) + 1 < C 3 3))
/-- what a formula leaves as it was -/
def fFC (s a : Nat) (C C' : Sto) : Prop := (∀ z : Int, (z < 2 ∨ (3 < z ∧ z < 19) ∨ (21 < z ∧ z < 25) ∨ 25 < z) → C' z = C z) ∧ (∀ j : Int, ¬ (j = 2 ∨ j = 3 ∨ j = 5 ∨ j = 6) → C' 2 j = C 2 j) ∧ (∀ j : Int, j < 3 ∨ 7 < j → C' 3 j = C 3 j) ∧ (∀ j : Int, ¬ (j = 0 ∨ j = 6) → C' 19 j = C 19 j) ∧ (∀ j : Nat, j < s → C' 20 j = C 20 j ∧ C' 21 j = C 21 j) ∧ (∀ j : Nat, j < a → C' 25 j = C 25 j) ∧ C 3 3 ≤ C' 3 3
def fFR (s : Nat) (R R' : Sto) : Prop := (∀ z : Int, ¬ (z = 129 ∨ z = 131 ∨ z = 140 ∨ z = 141) → R' z = R z) ∧ (∀ j : Int, j < 17 ∨ (22 < j ∧ ¬ j = 25 ∧ ¬ j = 26) → R' 129 j = R 129 j) ∧ (∀ j : Int, ¬ j = 13 → R' 131 j = R 131 j) ∧ (∀ j : Int, j < 64 + s → R' 140 j = R 140 j ∧ R' 141 j = R 141 j)
theorem fFC_r {s a : Nat} {C : Sto} : fFC s a C C := ⟨fun _ _ => rfl, fun _ _ => rfl, fun _ _ => rfl, fun _ _ => rfl, fun _ _ => ⟨rfl, rfl⟩, fun _ _ => rfl, Int.le_refl _⟩
theorem fFR_r {s : Nat} {R : Sto} : fFR s R R := ⟨fun _ _ => rfl, fun _ _ => rfl, fun _ _ => rfl, fun _ _ => ⟨rfl, rfl⟩⟩
theorem fFC_t {s a : Nat} {C C1 C2 : Sto} (h : fFC s a C C1) (g : fFC s a C1 C2) : fFC s a C C2 := by
  obtain ⟨a1, a2, a3, a4, a5, a6, a7⟩ := h
  obtain ⟨b1, b2, b3, b4, b5, b6, b7⟩ := g
  exact ⟨fun z hz => (b1 z hz).trans (a1 z hz), fun z hz => (b2 z hz).trans (a2 z hz), fun z hz => (b3 z hz).trans (a3 z hz), fun z hz => (b4 z hz).trans (a4 z hz), fun z hz => ⟨(b5 z hz).1.trans (a5 z hz).1, (b5 z hz).2.trans (a5 z hz).2⟩, fun z hz => (b6 z hz).trans (a6 z hz), Int.le_trans a7 b7⟩
theorem fFR_t {s : Nat} {R R1 R2 : Sto} (h : fFR s R R1) (g : fFR s R1 R2) : fFR s R R2 := by
  obtain ⟨a1, a2, a3, a4⟩ := h
  obtain ⟨b1, b2, b3, b4⟩ := g
  exact ⟨fun z hz => (b1 z hz).trans (a1 z hz), fun z hz => (b2 z hz).trans (a2 z hz), fun z hz => (b3 z hz).trans (a3 z hz), fun z hz => ⟨(b4 z hz).1.trans (a4 z hz).1, (b4 z hz).2.trans (a4 z hz).2⟩⟩
theorem fFC_m {s a a' : Nat} {C C' : Sto} (h : fFC s a' C C') (q : a ≤ a') : fFC s a C C' := by
  obtain ⟨a1, a2, a3, a4, a5, a6, a7⟩ := h
  exact ⟨a1, a2, a3, a4, a5, fun j hj => a6 j (by omega), a7⟩
section S99i
variable {xs : Int → Int} {n : Int × Int} {C R : Sto} {N : Int} {s h a p i o c w : Nat}
theorem fFC_fl {k : Int} : fFC s a C (flS C k) := by
  unfold flS
  refine ⟨fun z hz => ?_, fun j hj => ?_, fun j hj => ?_, fun j hj => ?_, fun j hj => ⟨?_, ?_⟩, fun j hj => ?_, ?_⟩
  · funext j
    rw [up_ne (by omega), up_ne (by omega)]
  · rw [up_ni (by omega), up_ni (by omega)]
  · rw [up_ne (by decide), up_ne (by decide)]
  · rw [up_ne (by decide), up_ne (by decide)]
  · rw [up_ne (by decide), up_ne (by decide)]
  · rw [up_ne (by decide), up_ne (by decide)]
  · rw [up_ne (by decide), up_ne (by decide)]
  · rw [up_ne (show ¬ (3 : Int) = 2 by decide), up_ne (show ¬ (3 : Int) = 2 by decide)]
    exact Int.le_refl _
theorem fFR_wr {k : Int} : fFR s R (wrgS R k) := by
  unfold wrgS
  refine ⟨fun z hz => ?_, fun j hj => ?_, fun j hj => ?_, fun j hj => ⟨?_, ?_⟩⟩
  · funext j
    rw [up_ne (by omega), up_ne (by omega)]
  · rw [up_ni (by omega), up_ni (by omega)]
  all_goals rw [up_ne (by decide), up_ne (by decide)]
/-- a token further -/
theorem FS_tok (F : FS N s h a p i o c w C R) (ht : ¬ C 3 4 = -38) : ∃ C' R' : Sto, (∀ d : Nat, dcl xs n (d + 3) 116 [(2, 3)] C (9, 0) C') ∧ (∀ d : Nat, drf xs n (d + 3) 189 [(2, 129)] R (9, 0) R') ∧ FS N s h a p (i + 1) o c w C' R' ∧ (∀ a' : Nat, fFC s a' C C') ∧ fFR s R R' ∧ C' 25 = C 25 := by
  obtain ⟨f1, ⟨f2, f3, f4, f5⟩, ⟨f6, f7, f8, f9⟩, f10, f11, f12, f13, f14⟩ := F
  obtain ⟨C', R', t1, t2, t3, ⟨g1, g2, g3, g4⟩, t5, t6⟩ := tok (xs := xs) (n := n) f1
  refine ⟨C', R', t1, t2, ⟨t3, ⟨?_, ?_, ?_, ?_⟩, ⟨?_, ?_, ?_, ?_⟩, ?_, ?_, ?_, ?_, ?_⟩, fun a' => ⟨fun z hz => g1 z (by omega), fun j _ => by rw [g1 2 (by decide)], g2, fun j _ => by rw [g1 19 (by decide)], fun j _ => by rw [g1 20 (by decide), g1 21 (by decide)]; exact ⟨rfl, rfl⟩, fun j _ => by rw [g1 25 (by decide)], t6⟩, ⟨fun z hz => g3 z (by omega), fun j hj => g4 j (by omega), fun j _ => by rw [g3 131 (by decide)], fun j _ => by rw [g3 140 (by decide), g3 141 (by decide)]; exact ⟨rfl, rfl⟩⟩, g1 25 (by decide)⟩
  · rw [g4 21 (by decide)]; exact f2
  · rw [g1 2 (by decide)]; exact f3
  · rw [g1 2 (by decide)]; exact f4
  · rw [g4 22 (by decide)]; exact f5
  · rw [g1 2 (by decide), g4 25 (by decide)]; exact f6
  · rw [g1 19 (by decide), g4 26 (by decide)]; exact f7
  · rw [g1 19 (by decide), g3 131 (by decide)]; exact f8
  · rw [g1 2 (by decide)]; exact f9
  · rw [g1 20 (by decide), g1 21 (by decide), g3 140 (by decide), g3 141 (by decide)]; exact f10
  · rw [g1 25 (by decide), g3 140 (by decide), g3 141 (by decide)]; exact f11
  · unfold ok20; rw [g1 20 (by decide)]; exact f12
  · rw [g3 140 (by decide), g3 141 (by decide)]; exact f13
  · have := f14.2 ht
    refine ⟨by omega, fun q => ?_⟩
    obtain t5 | t5 := t5
    · exact absurd t5 q
    · omega
/-- what waits is written -/
theorem e90 (d : Nat) (r : Int) (a : Nat) : ∀ (p l2 w : Nat) (C : Sto), C 2 5 = ((a + p : Nat) : Int) → C 19 6 = (w : Int) → w + p ≤ 64 → a + p ≤ 72 → l2 + p ≤ 72 → (∀ j : Nat, a ≤ j → j < a + p → okK (C 25 j) = true ∧ r ≤ kf 3 (C 25 j)) → (a = 0 ∨ (okK (C 25 ((a - 1 : Nat) : Int)) = true ∧ kf 3 (C 25 ((a - 1 : Nat) : Int)) < r)) → 0 < r → ∃ C' : Sto, (∀ R0 : Sto, Rn (d + 1) 90 2 [some (2, 2), some (0, r), some (0, (l2 : Int))] [] (Sg xs n (mix C R0)) = some ((9, 0), Sg xs n (mix C' R0))) ∧ C' 2 5 = (a : Int) ∧ C' 19 6 = ((w + p : Nat) : Int) ∧ (∀ t : Nat, t < p → C' 20 ((w + t : Nat) : Int) = C 25 ((a + (p - 1 - t) : Nat) : Int) ∧ C' 21 ((w + t : Nat) : Int) = 0) ∧ (∀ j : Nat, j < w → C' 20 j = C 20 j ∧ C' 21 j = C 21 j) ∧ (∀ z : Int, ¬ (z = 2 ∨ z = 19 ∨ z = 20 ∨ z = 21) → C' z = C z) ∧ (∀ j : Int, ¬ j = 5 → C' 2 j = C 2 j) ∧ (∀ j : Int, ¬ j = 6 → C' 19 j = C 19 j) ∧ (ok20 C → ok20 C') := by
  intro p
  induction p with
  | zero =>
    intro l2 w C h5 h6 hw ha hl hr ht r0
    refine ⟨C, fun R0 => ?_, h5, h6, fun t z => by omega, fun _ _ => ⟨rfl, rfl⟩, fun _ _ => rfl, fun _ _ => rfl, fun _ _ => rfl, fun z => z⟩
    rw [h90_2]
    by_cases q : (l2 : Int) < 72
    · have hk : 0 < (a : Int) → okK (C 25 ((a : Int) - 1)) = true := fun z => by
        obtain e | e := ht
        · omega
        · rw [show (a : Int) - 1 = ((a - 1 : Nat) : Int) by omega]
          exact e.1
      have tr : topR C < r := by
        unfold topR
        rw [h5]
        by_cases z : 0 < ((a + 0 : Nat) : Int)
        · rw [if_neg (fun y => y z)]
          obtain e | e := ht
          · omega
          · rw [show ((a + 0 : Nat) : Int) - 1 = ((a - 1 : Nat) : Int) by omega]
            exact e.2
        · rw [if_pos z]
          exact r0
      rw [if_neg (fun z => z q), e89 d (a := (a : Int)) h5 (by omega) (by omega) hk R0, cK0, pR0, h90_15, if_pos tr, h90_55]
    · rw [if_pos q, h90_55]
  | succ p ih =>
    intro l2 w C h5 h6 hw ha hl hr ht r0
    obtain ⟨k1, k2⟩ := hr (a + p) (by omega) (by omega)
    have i25 : ((a + (p + 1) : Nat) : Int) - 1 = ((a + p : Nat) : Int) := by omega
    generalize hK : up (up (up (up C 2 5 ((a + p : Nat) : Int)) 20 (w : Int) (C 25 ((a + p : Nat) : Int))) 21 (w : Int) 0) 19 6 ((w : Int) + 1) = C1
    have c2 : ∀ j : Int, ¬ j = 5 → C1 2 j = C 2 j := fun j hj => by rw [← hK, up_ne (by decide), up_ne (by decide), up_ne (by decide), up_ni hj]
    have c25 : C1 2 5 = ((a + p : Nat) : Int) := by rw [← hK, up_ne (by decide), up_ne (by decide), up_ne (by decide), up_at]
    have c19 : ∀ j : Int, ¬ j = 6 → C1 19 j = C 19 j := fun j hj => by rw [← hK, up_ni hj, up_ne (by decide), up_ne (by decide), up_ne (by decide)]
    have c196 : C1 19 6 = ((w + 1 : Nat) : Int) := by rw [← hK, up_at]; omega
    have c20 : ∀ j : Int, C1 20 j = if j = (w : Int) then C 25 ((a + p : Nat) : Int) else C 20 j := fun j => by
      rw [← hK, up_ne (by decide), up_ne (by decide)]
      by_cases q : j = w
      · rw [if_pos q, q, up_at]
      · rw [if_neg q, up_ni q, up_ne (by decide)]
    have c21 : ∀ j : Int, C1 21 j = if j = (w : Int) then 0 else C 21 j := fun j => by
      rw [← hK, up_ne (by decide)]
      by_cases q : j = w
      · rw [if_pos q, q, up_at]
      · rw [if_neg q, up_ni q, up_ne (by decide), up_ne (by decide)]
    have cz : ∀ z : Int, ¬ (z = 2 ∨ z = 19 ∨ z = 20 ∨ z = 21) → C1 z = C z := fun z hz => by
      funext j
      rw [← hK, up_ne (by omega), up_ne (by omega), up_ne (by omega), up_ne (by omega)]
    have z25 := cz 25 (by decide)
    obtain ⟨C', g1, g2, g3, g4, g5, g6, g7, g8, g9⟩ := ih (l2 + 1) (w + 1) C1 c25 c196 (by omega) (by omega) (by omega) (by rw [z25]; exact fun j h1 h2 => hr j h1 (by omega)) (by rw [z25]; exact ht) r0
    refine ⟨C', fun R0 => ?_, g2, by rw [g3]; omega, fun t htt => ?_, fun j hj => ?_, fun z hz => (g6 z hz).trans (cz z hz), fun j hj => (g7 j hj).trans (c2 j hj), fun j hj => (g8 j hj).trans (c19 j hj), fun z => g9 (fun k hk => ?_)⟩
    · have hk : 0 < ((a + (p + 1) : Nat) : Int) → okK (C 25 (((a + (p + 1) : Nat) : Int) - 1)) = true := fun _ => by
        rw [i25]
        exact k1
      have tr : ¬ topR C < r := by
        unfold topR
        rw [h5, if_neg (by omega), i25]
        omega
      have w5 : w32 (((a + (p + 1) : Nat) : Int) - 1) = ((a + p : Nat) : Int) := by rw [w32_idP (by omega) (by omega)]; omega
      have e41' := e41 (xs := xs) (n := n) (C := up C 2 5 ((a + p : Nat) : Int)) d (w := (w : Int)) (k := C 25 ((a + p : Nat) : Int)) (v := 0) (by rw [up_ne (by decide)]; exact h6) (by omega) (by omega) (okK_0 k1) R0
      rw [hK] at e41'
      rw [h90_2, if_neg (by omega), e89 d (a := ((a + (p + 1) : Nat) : Int)) h5 (by omega) (by omega) hk R0, cK0, pR0, h90_15, if_neg tr]
      simp only [mc1, uc1, mc2, uc2, mc3, uc3, mc4, uc4, mc5, uc5, mc6, uc6, mc7, uc7, mc8, uc8, mc9, uc9, mc10, uc10, mc11, uc11, mc12, uc12, mc13, uc13, mc14, uc14, mc15, uc15, mc16, uc16, mc17, uc17, mc18, uc18, mc19, uc19, mc20, uc20, mc21, uc21, mc22, uc22, mc23, uc23, mc24, uc24, mc25, uc25]
      rw [h5, w5, if_pos (inb_t (by omega) (by omega)), e41', cK9, pRv, h90_49, w1 (by omega)]
      exact g1 R0
    · by_cases q : t = 0
      · subst q
        have e := g5 w (by omega)
        rw [show ((w + 0 : Nat) : Int) = (w : Int) from rfl, e.1, e.2, c20, c21, if_pos rfl, if_pos rfl]
        exact ⟨rfl, rfl⟩
      · have e := g4 (t - 1) (by omega)
        rw [z25] at e
        rw [show w + t = w + 1 + (t - 1) by omega, show a + (p + 1 - 1 - t) = a + (p - 1 - (t - 1)) by omega]
        exact e
    · have e := g5 j (by omega)
      rw [e.1, e.2, c20, c21, if_neg (by omega), if_neg (by omega)]
      exact ⟨rfl, rfl⟩
    · rw [c20]
      by_cases q : (k : Int) = w
      · rw [if_pos q]
        exact okK_0 k1
      · rw [if_neg q]
        exact z k hk
end S99i
