/-! Text: the draft on both sides -/
def DG (nb m : Nat) (C R : Sto) : Prop := (C 9 0 = nb ∧ R 131 7 = nb ∧ nb ≤ 8 ∧ C 9 1 = m ∧ R 131 8 = m ∧ m ≤ 16) ∧ (∀ b : Nat, b < nb → C 6 b = R 132 (8 + b) ∧ (C 7 b = R 133 (8 + b) ∧ 0 ≤ C 7 b ∧ C 7 b < 256) ∧ (C 8 b = R 134 (8 + b) ∧ 0 ≤ C 8 b ∧ C 8 b ≤ 99) ∧ (C 15 b = R 135 (8 + b) - 1 ∧ -1 ≤ C 15 b ∧ C 15 b < nb)) ∧ (∀ k : Nat, k < m → (C 10 k = R 136 (16 + k) ∧ 0 ≤ C 10 k ∧ C 10 k < nb) ∧ (C 11 k = R 137 (16 + k) ∧ 0 ≤ C 11 k ∧ C 11 k < nb)) ∧ (∀ b : Nat, b < nb → (C 12 b = cntE (C 10) b m ∧ C 12 b ≤ 3) ∧ C 13 b = cntE (C 11) b m ∧ C 14 b = ((nxE (C 10) (C 11) b m : Nat) : Int) ∧ (∀ i : Nat, (i : Int) < C 12 b → C 16 ((b : Int) * 3 + i) = nthE (C 10) (fun z => z) b m m i) ∧ (¬ C 15 b = -1 → ∃ e : Nat, e < m ∧ C 11 e = b ∧ C 10 e = C 15 b))
/-- what is set, what is told; T: bits of what is told -/
def DS (nb i T : Nat) (C R : Sto) : Prop := (∃ K : Nat, C 5 5 = K ∧ R 131 9 = K ∧ K < 2 ^ nb) ∧ (C 5 6 = R 131 10 ∧ 1 ≤ C 5 6 ∧ C 5 6 ≤ 40) ∧ (C 5 7 = R 131 11 ∧ 0 ≤ C 5 7 ∧ C 5 7 ≤ 100) ∧ (C 5 8 = R 131 12 ∧ 0 ≤ C 5 8 ∧ C 5 8 ≤ 99999) ∧ (C 5 9 = i ∧ R 129 15 = i) ∧ (C 5 10 = bB (T.testBit 4 = true) ∧ C 5 11 = bB (T.testBit 5 = true) ∧ C 5 12 = bB (T.testBit 6 = true)) ∧ (∀ k : Nat, k < 3 → (T.testBit (16 + k) = true ↔ C 22 k < C 23 k))
def DL (C R : Sto) : Prop := ∃ w : Nat, (C 19 0 = w ∧ R 129 26 = w ∧ w ≤ 64 ∧ C 19 6 = w ∧ R 131 13 = w) ∧ (∀ t : Nat, t < w → knP (C 20 t) (C 21 t) (R 140 (64 + t)) (R 141 (64 + t))) ∧ ok20 C ∧ (∀ k : Nat, k < 3 → (C 22 k = R 138 (3 + k) ∧ C 23 k = R 139 (3 + k)) ∧ ∃ u v : Nat, C 22 k = u ∧ C 23 k = v ∧ u ≤ v ∧ v ≤ w ∧ (u < v → hgt (R 140) (R 141) (64 + (u : Int)) (v - u) = some 1))
def RX (nb m i T : Nat) (C R : Sto) : Prop := (R 129 21 = 0 ∧ C 2 2 = 0 ∧ C 2 3 = -1 ∧ R 129 22 = -1 ∧ R 129 25 = 0) ∧ DG nb m C R ∧ DS nb i T C R ∧ DL C R
/-- cells that reading leaves -/
def fC0 (C C' : Sto) : Prop := ∀ z j : Int, (z = 1 ∨ z = 4 ∨ 26 ≤ z ∨ z ≤ 0 ∨ (z = 3 ∧ j < 2)) → C' z j = C z j
def fR0 (R R' : Sto) : Prop := ∀ z j : Int, (z = 130 ∨ 142 ≤ z ∨ z < 129 ∨ (z = 129 ∧ (j < 14 ∨ (22 < j ∧ ¬ j = 25 ∧ ¬ j = 26))) ∨ (z = 131 ∧ j < 7) ∨ (132 ≤ z ∧ z ≤ 135 ∧ j < 8) ∨ (136 ≤ z ∧ z ≤ 137 ∧ j < 16) ∨ (138 ≤ z ∧ z ≤ 139 ∧ j < 3) ∨ (140 ≤ z ∧ z ≤ 141 ∧ j < 64)) → R' z j = R z j
theorem fC0_r {C : Sto} : fC0 C C := fun _ _ _ => rfl
theorem fR0_r {R : Sto} : fR0 R R := fun _ _ _ => rfl
theorem fC0_t {C C1 C2 : Sto} (h : fC0 C C1) (g : fC0 C1 C2) : fC0 C C2 := fun z j q => (g z j q).trans (h z j q)
theorem fR0_t {R R1 R2 : Sto} (h : fR0 R R1) (g : fR0 R1 R2) : fR0 R R2 := fun z j q => (g z j q).trans (h z j q)
theorem fC0_F {s a : Nat} {C C' : Sto} (h : fFC s a C C') : fC0 C C' := by
  obtain ⟨a1, a2, a3, a4, a5, a6, _⟩ := h
  intro z j q
  by_cases c : z = 3
  · subst c
    exact a3 j (by omega)
  · rw [a1 z (by omega)]
theorem fR0_F {s : Nat} {R R' : Sto} (h : fFR s R R') : fR0 R R' := by
  obtain ⟨a1, a2, a3, a4⟩ := h
  intro z j q
  by_cases c : z = 129
  · subst c
    exact a2 j (by omega)
  · by_cases c2 : z = 131
    · subst c2
      exact a3 j (by omega)
    · by_cases c3 : z = 140
      · subst c3
        exact (a4 j (by omega)).1
      · by_cases c4 : z = 141
        · subst c4
          exact (a4 j (by omega)).2
        · rw [a1 z (by omega)]
theorem fC0_tk {C C' R R' : Sto} (h : tkF C C' R R') : fC0 C C' := by
  obtain ⟨g1, g2, g3, g4⟩ := h
  intro z j q
  by_cases c : z = 3
  · subst c
    exact g2 j (by omega)
  · rw [g1 z c]
theorem fR0_tk {C C' R R' : Sto} (h : tkF C C' R R') : fR0 R R' := by
  obtain ⟨g1, g2, g3, g4⟩ := h
  intro z j q
  by_cases c : z = 129
  · subst c
    exact g4 j (by omega)
  · rw [g3 z c]
theorem fC0_fl {C : Sto} {k : Int} : fC0 C (flS C k) := fC0_F (s := 0) (a := 0) fFC_fl
theorem fR0_wr {R : Sto} {k : Int} : fR0 R (wrgS R k) := fR0_F (s := 0) fFR_wr
/-- a write that stays among cells of the draft -/
theorem fC0_u {C : Sto} {z j v : Int} (h : (z = 2 ∨ (5 ≤ z ∧ z < 26))) : fC0 C (up C z j v) := by
  intro y i q
  rw [up_ne (by omega)]
theorem fR0_u {R : Sto} {z j v : Int} (h : (z = 129 ∧ 14 ≤ j ∧ j ≤ 22) ∨ (z = 131 ∧ 7 ≤ j) ∨ (132 ≤ z ∧ z ≤ 135 ∧ 8 ≤ j) ∨ (136 ≤ z ∧ z ≤ 137 ∧ 16 ≤ j) ∨ (138 ≤ z ∧ z ≤ 139 ∧ 3 ≤ j)) : fR0 R (up R z j v) := by
  intro y i q
  by_cases c : y = z
  · rw [up_ni (by omega)]
  · rw [up_ne c]
section S99s
variable {xs : Int → Int} {n : Int × Int} {C C' R R' : Sto} {N : Int} {nb m i T : Nat}
theorem DG_c (h1 : ∀ z : Int, 6 ≤ z → z ≤ 16 → C' z = C z) (h2 : ∀ z : Int, 132 ≤ z → z ≤ 137 → R' z = R z) (h3 : R' 131 7 = R 131 7) (h4 : R' 131 8 = R 131 8) (G : DG nb m C R) : DG nb m C' R' := by
  unfold DG at G ⊢
  rw [h1 6 (by decide) (by decide), h1 7 (by decide) (by decide), h1 8 (by decide) (by decide), h1 9 (by decide) (by decide), h1 10 (by decide) (by decide), h1 11 (by decide) (by decide), h1 12 (by decide) (by decide), h1 13 (by decide) (by decide), h1 14 (by decide) (by decide), h1 15 (by decide) (by decide), h1 16 (by decide) (by decide), h2 132 (by decide) (by decide), h2 133 (by decide) (by decide), h2 134 (by decide) (by decide), h2 135 (by decide) (by decide), h2 136 (by decide) (by decide), h2 137 (by decide) (by decide), h3, h4]
  exact G
theorem DS_c (h1 : C' 5 = C 5) (h22 : C' 22 = C 22) (h23 : C' 23 = C 23) (h2 : ∀ j : Int, 9 ≤ j → j ≤ 12 → R' 131 j = R 131 j) (h3 : R' 129 15 = R 129 15) (G : DS nb i T C R) : DS nb i T C' R' := by
  unfold DS at G ⊢
  rw [h1, h22, h23, h2 9 (by decide) (by decide), h2 10 (by decide) (by decide), h2 11 (by decide) (by decide), h2 12 (by decide) (by decide), h3]
  exact G
theorem DL_c (h0 : C' 19 0 = C 19 0) (h6 : C' 19 6 = C 19 6) (h1 : ∀ z : Int, 20 ≤ z → z ≤ 23 → C' z = C z) (h2 : ∀ z : Int, 138 ≤ z → z ≤ 141 → R' z = R z) (h3 : R' 129 26 = R 129 26) (h4 : R' 131 13 = R 131 13) (G : DL C R) : DL C' R' := by
  unfold DL ok20 at G ⊢
  rw [h0, h6, h1 20 (by decide) (by decide), h1 21 (by decide) (by decide), h1 22 (by decide) (by decide), h1 23 (by decide) (by decide), h2 138 (by decide) (by decide), h2 139 (by decide) (by decide), h2 140 (by decide) (by decide), h2 141 (by decide) (by decide), h3, h4]
  exact G
theorem RX_tk (h : tkF C C' R R') (X : RX nb m i T C R) : RX nb m i T C' R' := by
  obtain ⟨⟨x1, x2, x3, x4, x5⟩, g, s, l⟩ := X
  obtain ⟨g1, g2, g3, g4⟩ := h
  refine ⟨⟨by rw [g4 21 (by decide)]; exact x1, by rw [g1 2 (by decide)]; exact x2, by rw [g1 2 (by decide)]; exact x3, by rw [g4 22 (by decide)]; exact x4, by rw [g4 25 (by decide)]; exact x5⟩, DG_c (fun z _ _ => g1 z (by omega)) (fun z _ _ => g3 z (by omega)) (by rw [g3 131 (by decide)]) (by rw [g3 131 (by decide)]) g, DS_c (g1 5 (by decide)) (g1 22 (by decide)) (g1 23 (by decide)) (fun j _ _ => by rw [g3 131 (by decide)]) (g4 15 (by decide)) s, DL_c (by rw [g1 19 (by decide)]) (by rw [g1 19 (by decide)]) (fun z _ _ => g1 z (by omega)) (fun z _ _ => g3 z (by omega)) (g4 26 (by decide)) (by rw [g3 131 (by decide)]) l⟩
theorem tokX (hT : RTk N C R) (X : RX nb m i T C R) : ∃ C' R' : Sto, (∀ d : Nat, dcl xs n (d + 3) 116 [(2, 3)] C (9, 0) C') ∧ (∀ d : Nat, drf xs n (d + 3) 189 [(2, 129)] R (9, 0) R') ∧ RTk N C' R' ∧ RX nb m i T C' R' ∧ tkF C C' R R' ∧ (C' 3 4 = -38 ∨ C 3 3 < C' 3 3) ∧ C 3 3 ≤ C' 3 3 := by
  obtain ⟨C', R', t1, t2, t3, t4, t5, t6⟩ := tok (xs := xs) (n := n) hT
  exact ⟨C', R', t1, t2, t3, RX_tk t4 X, t4, t5, t6⟩
theorem fnd_b {f : Int → Int} {v : Int} {k : Nat} : ∀ r : Nat, r ≤ k → fndE f v k r = -1 ∨ ∃ j : Nat, j < k ∧ fndE f v k r = (j : Int) := by
  intro r
  induction r with
  | zero => intro _; exact Or.inl rfl
  | succ r ih =>
    intro hr
    unfold fndE
    by_cases q : f ((k - (r + 1) : Nat) : Int) = v
    · rw [if_pos q]
      exact Or.inr ⟨k - (r + 1), by omega, rfl⟩
    · rw [if_neg q]
      exact ih (by omega)
theorem fnd_c {f g : Int → Int} {v : Int} {k : Nat} (h : ∀ b : Nat, b < k → f b = g b) : ∀ r : Nat, r ≤ k → fndE f v k r = fndE g v k r := by
  intro r
  induction r with
  | zero => intro _; rfl
  | succ r ih =>
    intro hr
    unfold fndE
    rw [h (k - (r + 1)) (by omega), ih (by omega)]
theorem e64 (d : Nat) (v : Int) (h : C 9 0 = nb) (h8 : nb ≤ 8) : dcl xs n (d + 1) 64 [(2, 5), (0, v)] C (0, fndE (C 6) v nb nb) C := by
  intro R0
  rw [n64b, h64b_0]
  have key : ∀ r, r ≤ nb → Rn d 64 2 [some (2, 5), some (0, v), some (0, ((nb - r : Nat) : Int))] [] (Sg xs n (mix C R0)) = some ((0, fndE (C 6) v nb r), Sg xs n (mix C R0)) := by
    intro r
    induction r with
    | zero =>
      intro _
      rw [h64b_2]
      simp only [mc9]
      rw [h, if_pos (by omega)]
      rfl
    | succ r ih =>
      intro hr
      rw [h64b_2]
      simp only [mc9, mc6]
      rw [h, if_neg (by omega), if_pos (inb_t (by omega) (by omega)), w1 (by omega)]
      unfold fndE
      by_cases e : C 6 ((nb - (r + 1) : Nat) : Int) = v
      · rw [if_neg (fun z => z e), if_pos e]
      · rw [if_pos e, if_neg e, show nb - (r + 1) + 1 = nb - r by omega]
        exact ih (by omega)
  have := key nb (Nat.le_refl nb)
  rw [Nat.sub_self] at this
  exact this
theorem r198 (d k : Nat) (v : Int) (h : k ≤ 8) : drf xs n (d + 1) 198 [(2, 132), (0, 8), (0, (k : Int)), (0, v)] R (0, fndE (fun z => R 132 (8 + z)) v k k) R := by
  intro C0
  have := c198 (xs := xs) (n := n) (D := mix C0 R) d 8 k v (by omega)
  rw [mr132] at this
  exact this
/-- a block's name is at hand -/
theorem NB (hT : RTk N C R) (X : RX nb m i T C R) : (∃ k : Nat, k < nb ∧ (∀ d : Nat, dcl xs n (d + 2) 75 [(2, 2)] C (0, (k : Int)) C) ∧ (∀ d : Nat, drf xs n (d + 2) 202 [(2, 129)] R (0, (k : Int)) R)) ∨ (∃ f : Int, ¬ f = 0 ∧ (∀ d : Nat, dcl xs n (d + 2) 75 [(2, 2)] C (0, -1) (flS C f)) ∧ (∀ d : Nat, drf xs n (d + 2) 202 [(2, 129)] R (0, 0) (wrgS R f))) := by
  have tp := tP_of hT.2.2.2
  have kc0 := okK_0 (okK_b tp.2.2.2.2.2.2.2.1.1 tp.2.2.2.2.2.2.2.1.2)
  have k37 := tp.2.1.2.1
  clear tp
  obtain ⟨⟨x1, _⟩, ⟨⟨g1, g2, g3, _⟩, g5, _⟩, _⟩ := X
  by_cases q : C 3 4 = -37
  · have rk := k37.mp q
    have e6 := tQ_6 hT.2.2.2 rk
    have ef : fndE (C 6) (C 3 6) nb nb = fndE (fun z => R 132 (8 + z)) (R 129 20) nb nb := by
      rw [e6]
      exact fnd_c (fun b hb => (g5 b hb).1) nb (Nat.le_refl nb)
    have cl : ∀ (d : Nat) (R0 : Sto), den (d + 2) 75 [(2, 2)] (Sg xs n (mix C R0)) = Rn (d + 1) 75 35 [some (2, 2), none] [(0, fndE (C 6) (C 3 6) nb nb)] (Sg xs n (mix C R0)) := by
      intro d R0
      rw [n75, h75_0]
      simp only [mc1, uc1, mc2, uc2, mc3, uc3, mc4, uc4, mc5, uc5, mc6, uc6, mc7, uc7, mc8, uc8, mc9, uc9, mc10, uc10, mc11, uc11, mc12, uc12, mc13, uc13, mc14, uc14, mc15, uc15, mc16, uc16, mc17, uc17, mc18, uc18, mc19, uc19, mc20, uc20, mc21, uc21, mc22, uc22, mc23, uc23, mc24, uc24, mc25, uc25]
      rw [if_pos (by rw [kc0]; rfl), if_pos q, e64 d (C 3 6) g1 g3 R0, cK0, pR0]
    have rf : ∀ (d : Nat) (C0 : Sto), den (d + 2) 202 [(2, 129)] (Sg xs n (mix C0 R)) = Rn (d + 1) 202 51 [some (2, 129), none] [(0, fndE (fun z => R 132 (8 + z)) (R 129 20) nb nb)] (Sg xs n (mix C0 R)) := by
      intro d C0
      have e0 := r200 (xs := xs) (n := n) (R := R) d (k := 0) (by decide) (by decide) C0
      rw [show (7 : Int) + 0 = 7 from rfl, g2] at e0
      rw [n202, h202_0]
      simp only [mr129]
      rw [if_pos x1, if_pos rk, h202_22]
      simp only [mr129]
      rw [if_neg (fun z => z x1), e0, cK0]
      show Rn (d + 1) 202 40 [some (2, 129), none] [(0, (nb : Int)), (0, 8), (2, 132)] (Sg xs n (mix C0 R)) = _
      rw [h202_40]
      simp only [mr129]
      rw [r198 d nb (R 129 20) g3 C0, cK0, pR0, h202_47]
    rw [ef] at cl
    obtain z | ⟨k, hk, z⟩ := fnd_b (f := fun z => R 132 (8 + z)) (v := R 129 20) (k := nb) nb (Nat.le_refl nb)
    · right
      refine ⟨4, by decide, fun d R0 => ?_, fun d C0 => ?_⟩
      · rw [cl d R0, z, h75_35, if_neg (fun y => y (by decide)), e70 d 4 R0, cK0, pR0, h75_45, h75_46]
      · have wf := wr_f (R := R) (k := 4) (by decide)
        rw [rf d C0, z, h202_51]
        simp only [mr129]
        rw [if_neg (fun y => y x1), if_neg (fun y => y trivial), r193 d x1 C0, cK9, pRv, h202_69]
        simp only [mr129]
        rw [if_neg wf, h202_81]
    · left
      refine ⟨k, hk, fun d R0 => ?_, fun d C0 => ?_⟩
      · rw [cl d R0, z, h75_35, if_pos (by omega), h75_46]
      · rw [rf d C0, z, h202_51]
        simp only [mr129]
        rw [if_neg (fun y => y x1), if_pos (by omega), h202_69]
        simp only [mr129]
        rw [if_pos x1, h202_81]
  · right
    have rk : ¬ R 129 19 = 1 := fun z => q (k37.mpr z)
    refine ⟨1, by decide, fun d R0 => ?_, fun d C0 => ?_⟩
    · rw [n75, h75_0]
      simp only [mc1, uc1, mc2, uc2, mc3, uc3, mc4, uc4, mc5, uc5, mc6, uc6, mc7, uc7, mc8, uc8, mc9, uc9, mc10, uc10, mc11, uc11, mc12, uc12, mc13, uc13, mc14, uc14, mc15, uc15, mc16, uc16, mc17, uc17, mc18, uc18, mc19, uc19, mc20, uc20, mc21, uc21, mc22, uc22, mc23, uc23, mc24, uc24, mc25, uc25]
      rw [if_pos (by rw [kc0]; rfl), if_neg q, e70 d 1 R0, cK0, pR0, h75_18]
    · have wf := wr_f (R := R) (k := 1) (by decide)
      rw [n202, h202_0]
      simp only [mr129]
      rw [if_pos x1, if_neg rk, r193 d x1 C0, cK9, pRv, h202_22]
      simp only [mr129]
      rw [if_pos wf, h202_51]
      simp only [mr129]
      rw [if_pos wf, h202_69]
      simp only [mr129]
      rw [if_neg wf, h202_81]
theorem r202n (d : Nat) (h : ¬ R 129 21 = 0) : drf xs n (d + 1) 202 [(2, 129)] R (0, 0) R := by
  intro C0
  rw [n202, h202_0]
  simp only [mr129]
  rw [if_neg h]
/-- a number is at hand -/
theorem NUM {lo hi : Int} (hT : RTk N C R) (x1 : R 129 21 = 0) (h9 : hi ≤ 99999) : (∃ v : Int, lo ≤ v ∧ v ≤ hi ∧ C 3 7 = v ∧ ¬ C 3 4 = -38 ∧ (∀ d : Nat, dcl xs n (d + 2) 74 [(2, 2), (0, lo), (0, hi)] C (0, 1) C) ∧ (∀ R' : Sto, (∀ d : Nat, drf xs n (d + 3) 189 [(2, 129)] R (9, 0) R') → ∀ d : Nat, drf xs n (d + 4) 197 [(2, 129), (0, lo), (0, hi)] R (0, v) R')) ∨ (∃ f : Int, ¬ f = 0 ∧ (∀ d : Nat, dcl xs n (d + 2) 74 [(2, 2), (0, lo), (0, hi)] C (0, 0) (flS C f)) ∧ (∀ d : Nat, drf xs n (d + 4) 197 [(2, 129), (0, lo), (0, hi)] R (0, lo) (wrgS R f))) := by
  have tp := tP_of hT.2.2.2
  have kc0 := okK_0 (okK_b tp.2.2.2.2.2.2.2.1.1 tp.2.2.2.2.2.2.2.1.2)
  have k36 := tp.2.1.1
  clear tp
  by_cases q : C 3 4 = -36
  · have rk := k36.mp q
    have nu := tQ_n hT.2.2.2 rk
    unfold nuE at nu
    by_cases ok : lo ≤ C 3 7 ∧ C 3 7 ≤ hi
    · left
      refine ⟨C 3 7, ok.1, ok.2, rfl, by rw [q]; decide, fun d R0 => ?_, fun R' t2 d C0 => ?_⟩
      · rw [n74, h74_0]
        simp only [mc1, uc1, mc2, uc2, mc3, uc3, mc4, uc4, mc5, uc5, mc6, uc6, mc7, uc7, mc8, uc8, mc9, uc9, mc10, uc10, mc11, uc11, mc12, uc12, mc13, uc13, mc14, uc14, mc15, uc15, mc16, uc16, mc17, uc17, mc18, uc18, mc19, uc19, mc20, uc20, mc21, uc21, mc22, uc22, mc23, uc23, mc24, uc24, mc25, uc25]
        rw [if_pos (by rw [kc0]; rfl), if_pos q, c179, cK0, pR0, h74_31, bB_t ok, if_pos (by decide), h74_42, h74_47, if_pos (show ret01 74 1 = true from rfl)]
      · have rv : R 129 20 = C 3 7 := by omega
        rw [n197, h197_0]
        simp only [mr129]
        rw [if_pos x1, if_pos rk, rv, if_neg (by omega), if_pos (by omega), h197_46]
        simp only [mr129]
        rw [if_pos x1, t2 d C0, cK9, pRv, h197_64, rv]
    · right
      refine ⟨2, by decide, fun d R0 => ?_, fun d C0 => ?_⟩
      · rw [n74, h74_0]
        simp only [mc1, uc1, mc2, uc2, mc3, uc3, mc4, uc4, mc5, uc5, mc6, uc6, mc7, uc7, mc8, uc8, mc9, uc9, mc10, uc10, mc11, uc11, mc12, uc12, mc13, uc13, mc14, uc14, mc15, uc15, mc16, uc16, mc17, uc17, mc18, uc18, mc19, uc19, mc20, uc20, mc21, uc21, mc22, uc22, mc23, uc23, mc24, uc24, mc25, uc25]
        rw [if_pos (by rw [kc0]; rfl), if_pos q, c179, cK0, pR0, h74_31, bB_f ok, if_neg (fun z => z rfl), e70 d 2 R0, cK0, pR0, h74_39, if_pos rfl, h74_47, if_pos (show ret01 74 0 = true from rfl)]
      · have wf := wr_f (R := R) (k := 2) (by decide)
        have at41 : Rn (d + 3) 197 41 [some (2, 129), some (0, lo), some (0, hi), none] [] (Sg xs n (mix C0 R)) = some ((0, lo), Sg xs n (mix C0 (wrgS R 2))) := by
          rw [h197_41, r193 (d + 2) x1 C0, cK9, pRv, h197_46]
          simp only [mr129]
          rw [if_neg wf]
        rw [n197, h197_0]
        simp only [mr129]
        rw [if_pos x1, if_pos rk]
        by_cases z : R 129 20 < lo
        · rw [if_pos z]
          exact at41
        · rw [if_neg z, if_neg (by omega)]
          exact at41
  · right
    have rk : ¬ R 129 19 = 2 := fun z => q (k36.mpr z)
    refine ⟨1, by decide, fun d R0 => ?_, fun d C0 => ?_⟩
    · rw [n74, h74_0]
      simp only [mc1, uc1, mc2, uc2, mc3, uc3, mc4, uc4, mc5, uc5, mc6, uc6, mc7, uc7, mc8, uc8, mc9, uc9, mc10, uc10, mc11, uc11, mc12, uc12, mc13, uc13, mc14, uc14, mc15, uc15, mc16, uc16, mc17, uc17, mc18, uc18, mc19, uc19, mc20, uc20, mc21, uc21, mc22, uc22, mc23, uc23, mc24, uc24, mc25, uc25]
      rw [if_pos (by rw [kc0]; rfl), if_neg q, e70 d 1 R0, cK0, pR0, h74_18, if_pos (show ret01 74 0 = true from rfl)]
    · have wf := wr_f (R := R) (k := 1) (by decide)
      rw [n197, h197_0]
      simp only [mr129]
      rw [if_pos x1, if_neg rk, r193 (d + 2) x1 C0, cK9, pRv, h197_22, h197_46]
      simp only [mr129]
      rw [if_neg wf]
theorem r197n (d : Nat) {lo hi : Int} (h : ¬ R 129 21 = 0) : drf xs n (d + 1) 197 [(2, 129), (0, lo), (0, hi)] R (0, lo) R := by
  intro C0
  rw [n197, h197_0]
  simp only [mr129]
  rw [if_neg h]
/-- a new name is at hand -/
theorem FRESH (hT : RTk N C R) (X : RX nb m i T C R) : (C 3 4 = -37 ∧ fndE (C 6) (C 3 6) nb nb = -1 ∧ (∀ R' : Sto, (∀ d : Nat, drf xs n (d + 3) 189 [(2, 129)] R (9, 0) R') → ∀ d : Nat, drf xs n (d + 4) 199 [(2, 129), (2, 132), (0, 8), (0, (nb : Int))] R (0, C 3 6) R')) ∨ (∃ f : Int, ¬ f = 0 ∧ ((¬ C 3 4 = -37 ∧ f = 1) ∨ (C 3 4 = -37 ∧ ¬ fndE (C 6) (C 3 6) nb nb < 0 ∧ f = 3)) ∧ (∀ d : Nat, drf xs n (d + 4) 199 [(2, 129), (2, 132), (0, 8), (0, (nb : Int))] R (0, 0) (wrgS R f))) := by
  have k37 := (tP_of hT.2.2.2).2.1.2.1
  obtain ⟨⟨x1, _⟩, ⟨⟨g1, g2, g3, _⟩, g5, _⟩, _⟩ := X
  by_cases q : C 3 4 = -37
  · have rk := k37.mp q
    have e6 := tQ_6 hT.2.2.2 rk
    have ef : fndE (C 6) (C 3 6) nb nb = fndE (fun z => R 132 (8 + z)) (R 129 20) nb nb := by
      rw [e6]
      exact fnd_c (fun b hb => (g5 b hb).1) nb (Nat.le_refl nb)
    have rf : ∀ (d : Nat) (C0 : Sto), den (d + 4) 199 [(2, 129), (2, 132), (0, 8), (0, (nb : Int))] (Sg xs n (mix C0 R)) = Rn (d + 3) 199 35 [some (2, 129), some (2, 132), some (0, 8), some (0, (nb : Int)), none] [(0, fndE (fun z => R 132 (8 + z)) (R 129 20) nb nb)] (Sg xs n (mix C0 R)) := by
      intro d C0
      rw [n199, h199_0]
      simp only [mr129]
      rw [if_pos x1, if_pos rk, r198 (d + 2) nb (R 129 20) g3 C0, cK0, pR0]
    rw [ef]
    obtain z | ⟨k, hk, z⟩ := fnd_b (f := fun z => R 132 (8 + z)) (v := R 129 20) (k := nb) nb (Nat.le_refl nb)
    · left
      refine ⟨q, z, fun R' t2 d C0 => ?_⟩
      rw [rf d C0, z, h199_35, if_pos rfl, h199_44]
      simp only [mr129]
      rw [if_pos x1, t2 d C0, cK9, pRv, h199_63, e6]
    · right
      refine ⟨3, by decide, Or.inr ⟨q, by rw [z]; omega, rfl⟩, fun d C0 => ?_⟩
      have wf := wr_f (R := R) (k := 3) (by decide)
      rw [rf d C0, z, h199_35, if_neg (by omega), r193 (d + 2) x1 C0, cK9, pRv, h199_44]
      simp only [mr129]
      rw [if_neg wf]
  · right
    have rk : ¬ R 129 19 = 1 := fun z => q (k37.mpr z)
    refine ⟨1, by decide, Or.inl ⟨q, rfl⟩, fun d C0 => ?_⟩
    have wf := wr_f (R := R) (k := 1) (by decide)
    rw [n199, h199_0]
    simp only [mr129]
    rw [if_pos x1, if_neg rk, r193 (d + 2) x1 C0, cK9, pRv, h199_22, h199_44]
    simp only [mr129]
    rw [if_neg wf]
end S99s
