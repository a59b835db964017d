/-! Text: lines of edges -/
def edC (C : Sto) (m f t x y v : Int) : Sto := up (up (up (up (up (up (up C 10 m f) 11 m t) 16 (f * 3 + x) m) 12 f (x + 1)) 13 t (y + 1)) 14 f v) 9 1 (m + 1)
section S99z
variable {xs : Int → Int} {n : Int × Int} {C C' R R' : Sto} {N : Int} {nb m i T d0 : Nat}
theorem e4 (d : Nat) {f t : Nat} (G : DG nb m C R) (hf : f < nb) (ht : t < nb) (hm : m < 16) (h3 : C 12 f < 3) : dcl xs n (d + 2) 4 [(2, 9), (0, (f : Int)), (0, (t : Int))] C (9, 0) (edC C m f t (C 12 f) (C 13 t) ((nxE (C 10) (C 11) f m ||| 2 ^ t : Nat) : Int)) := by
  intro R0
  have c12 := (G.2.2.2 f hf).1
  have c13 := (G.2.2.2 t ht).2.1
  have b12 := cntE_b (C 10) f m
  have b13 := cntE_b (C 11) t m
  rw [← c12.1] at b12
  rw [← c13] at b13
  have l12 := c12.2
  clear c12 c13
  obtain ⟨g1, _, g3, g4, _, _⟩ := G.1
  have if8 := inb_t (show 0 ≤ (f : Int) by omega) (show (f : Int) < 8 by omega)
  have it8 := inb_t (show 0 ≤ (t : Int) by omega) (show (t : Int) < 8 by omega)
  have im := inb_t (show 0 ≤ (m : Int) by omega) (show (m : Int) < 16 by omega)
  have i24 := inb_t (show 0 ≤ (f : Int) * 3 + C 12 f by omega) (show (f : Int) * 3 + C 12 f < 24 by omega)
  have m16 : ¬ ¬ (m : Int) < 16 := by omega
  have t31 : t < 31 := by omega
  have t8 : t ≤ 8 := by omega
  have y1 : -2147483648 ≤ (f : Int) * 3 ∧ (f : Int) * 3 < 2147483648 := by omega
  have y2 : -2147483648 ≤ (f : Int) * 3 + C 12 f ∧ (f : Int) * 3 + C 12 f < 2147483648 := by omega
  have y3 : -2147483648 ≤ C 12 f + 1 ∧ C 12 f + 1 < 2147483648 := by omega
  have y4 : -2147483648 ≤ C 13 t + 1 ∧ C 13 t + 1 < 2147483648 := by omega
  have y5 : -2147483648 ≤ (m : Int) + 1 ∧ (m : Int) + 1 < 2147483648 := by omega
  have w1' : w32 (w32 ((f : Int) * 3) + C 12 f) = (f : Int) * 3 + C 12 f := by
    rw [w32_idP y1.1 y1.2, w32_idP y2.1 y2.2]
  have w12 : w32 (C 12 f + 1) = C 12 f + 1 := w32_idP y3.1 y3.2
  have w13 : w32 (C 13 t + 1) = C 13 t + 1 := w32_idP y4.1 y4.2
  have wm : w32 ((m : Int) + 1) = (m : Int) + 1 := w32_idP y5.1 y5.2
  have c14 := (G.2.2.2 f hf).2.2.1
  have nx := nxE_lt (F := C 10) (T := C 11) (b := (f : Int)) (n := 8) (m := m) (fun k hk => Int.lt_of_lt_of_le (G.2.2.1 k hk).2.2.2 (Int.ofNat_le.mpr g3)) (by decide) m (Nat.le_refl m)
  have nx31 : nxE (C 10) (C 11) f m < 2147483648 := Nat.lt_trans nx (by decide)
  have pk : 2 ^ t < 2147483648 := Nat.lt_of_le_of_lt (Nat.pow_le_pow_right (by decide) t8) (by decide)
  have c6f := c6b (xs := xs) (n := n) (D := mix C R0) (d := d) (b := (f : Int))
  have c6t := c6b (xs := xs) (n := n) (D := mix C R0) (d := d) (b := (t : Int))
  rw [mc9, g1, bB_t (show 0 ≤ (f : Int) ∧ (f : Int) < (nb : Int) from ⟨Int.natCast_nonneg f, Int.ofNat_lt.mpr hf⟩)] at c6f
  rw [mc9, g1, bB_t (show 0 ≤ (t : Int) ∧ (t : Int) < (nb : Int) from ⟨Int.natCast_nonneg t, Int.ofNat_lt.mpr ht⟩)] at c6t
  rw [n4, h4_0]
  simp only [mc9]
  rw [g4, if_neg m16, c6f, cK0, pR0, h4_14, if_neg (by decide), c6t, cK0, pR0, h4_22, if_neg (by decide), if_pos if8]
  simp only [mc9, mc12, mc13, mc14, uc10, uc11, uc16, uc12, uc13]
  rw [if_neg (fun z => z h3), g4, if_pos im, if_pos im, if_pos if8, w1', if_pos i24, if_pos if8, if_pos if8, if_pos it8, if_pos it8, if_pos if8, w12, w13, c180 d t t31, cK0]
  show Rn (d + 1) 4 105 [some (2, 9), some (0, (f : Int)), some (0, (t : Int))] [(0, ((2 ^ t : Nat) : Int)), (0, C 14 (f : Int)), (0, (f : Int)), (2, 14)] _ = _
  rw [h4_105, if_pos if8, c14, i_or_nat nx31 pk, h4_117]
  simp only [uc14, mc9]
  rw [up_ne (show ¬ (9 : Int) = 13 by decide), up_ne (show ¬ (9 : Int) = 12 by decide), up_ne (show ¬ (9 : Int) = 16 by decide), up_ne (show ¬ (9 : Int) = 11 by decide), up_ne (show ¬ (9 : Int) = 10 by decide), g4, wm, uc9]
  unfold edC
  rfl
theorem ed_f {k f t x y v w j : Int} (hw : ¬ (w = 10 ∨ w = 11 ∨ w = 16 ∨ w = 12 ∨ w = 13 ∨ w = 14 ∨ w = 9)) : edC C k f t x y v w j = C w j := by
  unfold edC
  rw [up_ne (by omega), up_ne (by omega), up_ne (by omega), up_ne (by omega), up_ne (by omega), up_ne (by omega), up_ne (by omega)]
theorem DG_edge {f t : Nat} (G : DG nb m C R) (hf : f < nb) (ht : t < nb) (hm : m < 16) (h3 : C 12 f < 3) : DG nb (m + 1) (edC C m f t (C 12 f) (C 13 t) ((nxE (C 10) (C 11) f m ||| 2 ^ t : Nat) : Int)) (up (up (up R 136 (16 + (m : Int)) f) 137 (16 + (m : Int)) t) 131 8 ((m + 1 : Nat) : Int)) := by
  obtain ⟨⟨g1, g2, g3, g4, g5, g6⟩, gb, ge, gc⟩ := G
  generalize hE : edC C m f t (C 12 f) (C 13 t) ((nxE (C 10) (C 11) f m ||| 2 ^ t : Nat) : Int) = D
  generalize hR : up (up (up R 136 (16 + (m : Int)) f) 137 (16 + (m : Int)) t) 131 8 ((m + 1 : Nat) : Int) = Q
  have dz : ∀ w : Int, ¬ (w = 10 ∨ w = 11 ∨ w = 16 ∨ w = 12 ∨ w = 13 ∨ w = 14 ∨ w = 9) → D w = C w := fun w hw => by
    funext j
    rw [← hE, ed_f hw]
  unfold edC at hE
  have d10 : ∀ j : Int, D 10 j = if j = (m : Int) then (f : Int) else C 10 j := fun j => by
    rw [← hE, up_ne (by decide), up_ne (by decide), up_ne (by decide), up_ne (by decide), up_ne (by decide), up_ne (by decide)]
    by_cases q : j = (m : Int)
    · rw [if_pos q, q, up_at]
    · rw [if_neg q, up_ni q]
  have d11 : ∀ j : Int, D 11 j = if j = (m : Int) then (t : Int) else C 11 j := fun j => by
    rw [← hE, up_ne (by decide), up_ne (by decide), up_ne (by decide), up_ne (by decide), up_ne (by decide)]
    by_cases q : j = (m : Int)
    · rw [if_pos q, q, up_at]
    · rw [if_neg q, up_ni q, up_ne (by decide)]
  have d16 : ∀ j : Int, D 16 j = if j = (f : Int) * 3 + C 12 f then (m : Int) else C 16 j := fun j => by
    rw [← hE, up_ne (by decide), up_ne (by decide), up_ne (by decide), up_ne (by decide)]
    by_cases q : j = (f : Int) * 3 + C 12 f
    · rw [if_pos q, q, up_at]
    · rw [if_neg q, up_ni q, up_ne (by decide), up_ne (by decide)]
  have d12 : ∀ j : Int, D 12 j = if j = (f : Int) then C 12 f + 1 else C 12 j := fun j => by
    rw [← hE, up_ne (by decide), up_ne (by decide), up_ne (by decide)]
    by_cases q : j = (f : Int)
    · rw [if_pos q, q, up_at]
    · rw [if_neg q, up_ni q, up_ne (by decide), up_ne (by decide), up_ne (by decide)]
  have d13 : ∀ j : Int, D 13 j = if j = (t : Int) then C 13 t + 1 else C 13 j := fun j => by
    rw [← hE, up_ne (by decide), up_ne (by decide)]
    by_cases q : j = (t : Int)
    · rw [if_pos q, q, up_at]
    · rw [if_neg q, up_ni q, up_ne (by decide), up_ne (by decide), up_ne (by decide), up_ne (by decide)]
  have d14 : ∀ j : Int, D 14 j = if j = (f : Int) then ((nxE (C 10) (C 11) f m ||| 2 ^ t : Nat) : Int) else C 14 j := fun j => by
    rw [← hE, up_ne (by decide)]
    by_cases q : j = (f : Int)
    · rw [if_pos q, q, up_at]
    · rw [if_neg q, up_ni q, up_ne (by decide), up_ne (by decide), up_ne (by decide), up_ne (by decide), up_ne (by decide)]
  have d90 : D 9 0 = C 9 0 := by rw [← hE, up_ni (by decide), up_ne (by decide), up_ne (by decide), up_ne (by decide), up_ne (by decide), up_ne (by decide), up_ne (by decide)]
  have d91 : D 9 1 = (m : Int) + 1 := by rw [← hE, up_at]
  have qz : ∀ w : Int, ¬ (w = 131 ∨ w = 136 ∨ w = 137) → Q w = R w := fun w hw => by
    funext j
    rw [← hR, up_ne (by omega), up_ne (by omega), up_ne (by omega)]
  have q131 : ∀ j : Int, ¬ j = 8 → Q 131 j = R 131 j := fun j hj => by rw [← hR, up_ni hj, up_ne (by decide), up_ne (by decide)]
  have q8 : Q 131 8 = ((m + 1 : Nat) : Int) := by rw [← hR, up_at]
  have q136 : ∀ j : Int, Q 136 j = if j = 16 + (m : Int) then (f : Int) else R 136 j := fun j => by
    rw [← hR, up_ne (by decide), up_ne (by decide)]
    by_cases q : j = 16 + (m : Int)
    · rw [if_pos q, q, up_at]
    · rw [if_neg q, up_ni q]
  have q137 : ∀ j : Int, Q 137 j = if j = 16 + (m : Int) then (t : Int) else R 137 j := fun j => by
    rw [← hR, up_ne (by decide)]
    by_cases q : j = 16 + (m : Int)
    · rw [if_pos q, q, up_at]
    · rw [if_neg q, up_ni q, up_ne (by decide)]
  have a10 : ∀ k : Nat, k < m → D 10 k = C 10 k := fun k hk => by rw [d10, if_neg (by omega)]
  have a11 : ∀ k : Nat, k < m → D 11 k = C 11 k := fun k hk => by rw [d11, if_neg (by omega)]
  have m10 : D 10 (m : Int) = f := by rw [d10, if_pos rfl]
  have m11 : D 11 (m : Int) = t := by rw [d11, if_pos rfl]
  have b0 := (cntE_b (C 10) f m).1
  rw [← (gc f hf).1.1] at b0
  have ce : ∀ (b : Int) (e : Nat), e ≤ m → cntE (D 10) b e = cntE (C 10) b e := fun b e he => cntE_c e (fun k hk => a10 k (by omega))
  refine ⟨⟨by rw [d90]; exact g1, by rw [q131 7 (by decide)]; exact g2, g3, by rw [d91]; omega, q8, by omega⟩, ?_, fun k hk => ?_, fun b hb => ?_⟩
  · rw [dz 6 (by decide), dz 7 (by decide), dz 8 (by decide), dz 15 (by decide), qz 132 (by decide), qz 133 (by decide), qz 134 (by decide), qz 135 (by decide)]
    exact gb
  · rw [d10, d11, q136, q137]
    by_cases q : k = m
    · rw [if_pos (by omega), if_pos (by omega), if_pos (by omega), if_pos (by omega)]
      exact ⟨⟨rfl, by omega, by omega⟩, ⟨rfl, by omega, by omega⟩⟩
    · rw [if_neg (by omega), if_neg (by omega), if_neg (by omega), if_neg (by omega)]
      exact ge k (by omega)
  · have gcb := gc b hb
    have k10 : cntE (D 10) b (m + 1) = cntE (C 10) b m + (if (f : Int) = (b : Int) then 1 else 0) := by
      rw [show cntE (D 10) b (m + 1) = cntE (D 10) b m + (if D 10 (m : Int) = (b : Int) then 1 else 0) from rfl, ce b m (Nat.le_refl m), m10]
    have k11 : cntE (D 11) b (m + 1) = cntE (C 11) b m + (if (t : Int) = (b : Int) then 1 else 0) := by
      rw [show cntE (D 11) b (m + 1) = cntE (D 11) b m + (if D 11 (m : Int) = (b : Int) then 1 else 0) from rfl, cntE_c m a11, m11]
    have k14 : nxE (D 10) (D 11) b (m + 1) = if (f : Int) = (b : Int) then nxE (C 10) (C 11) b m ||| 2 ^ t else nxE (C 10) (C 11) b m := by
      rw [show nxE (D 10) (D 11) b (m + 1) = if D 10 (m : Int) = (b : Int) then nxE (D 10) (D 11) b m ||| 2 ^ (D 11 (m : Int)).toNat else nxE (D 10) (D 11) b m from rfl, m10, m11, nxE_c m (fun k hk => ⟨a10 k hk, a11 k hk⟩)]
      rfl
    rw [k10, k11, k14, d12, d13, d14, dz 15 (by decide)]
    -- the i-th edge out of b
    have old : ∀ j : Nat, (j : Int) < C 12 b → nthE (D 10) (fun z => z) b (m + 1) (m + 1) j = nthE (C 10) (fun z => z) b m m j := by
      intro j hj
      rw [gcb.1.1] at hj
      obtain ⟨e, e1, e2, e3⟩ := cnt_find m (j : Int) (by omega) hj
      have x1 := nth_e (f := D 10) (g := fun z => z) (v := (b : Int)) (M := m + 1) (e := e) (by omega) (by rw [a10 e e1]; exact e2)
      have x2 := nth_e (f := C 10) (g := fun z => z) (v := (b : Int)) (M := m) (e := e) e1 e2
      rw [ce b e (by omega), e3] at x1
      rw [e3] at x2
      rw [x1, x2]
    refine ⟨?_, ?_, ?_, ?_, ?_⟩
    · by_cases q : (b : Int) = (f : Int)
      · rw [if_pos q, if_pos q.symm]
        have := gcb.1
        rw [q] at this ⊢
        exact ⟨by omega, by omega⟩
      · rw [if_neg q, if_neg (fun z => q z.symm)]
        exact ⟨by have := gcb.1.1; omega, gcb.1.2⟩
    · by_cases q : (b : Int) = (t : Int)
      · rw [if_pos q, if_pos q.symm]
        have := gcb.2.1
        rw [q] at this ⊢
        omega
      · rw [if_neg q, if_neg (fun z => q z.symm)]
        have := gcb.2.1
        omega
    · by_cases q : (b : Int) = (f : Int)
      · rw [if_pos q, if_pos q.symm, q]
      · rw [if_neg q, if_neg (fun z => q z.symm)]
        exact gcb.2.2.1
    · intro j hj
      rw [d16]
      have b3 := gcb.1.2
      by_cases q : (b : Int) = (f : Int)
      · rw [if_pos q] at hj
        by_cases z : (j : Int) = C 12 f
        · rw [if_pos (by rw [q, z])]
          have x1 := nth_e (f := D 10) (g := fun z => z) (v := (b : Int)) (M := m + 1) (e := m) (by omega) (by rw [m10]; exact q.symm)
          rw [ce b m (Nat.le_refl m), ← gcb.1.1, q, ← z] at x1
          rw [q]
          exact x1.symm
        · have lt : (j : Int) < C 12 b := by rw [q]; omega
          rw [if_neg (by omega), old j lt]
          exact gcb.2.2.2.1 j lt
      · rw [if_neg q] at hj
        rw [if_neg (by omega), old j hj]
        exact gcb.2.2.2.1 j hj
    · intro z
      obtain ⟨e, e1, e2, e3⟩ := gcb.2.2.2.2 z
      exact ⟨e, by omega, by rw [a11 e e1]; exact e2, by rw [a10 e e1]; exact e3⟩
theorem BO_edge (hT : RTk N C R) (X : RX nb m i T C R) (hk : R 129 19 = 0) (hv : R 129 20 = ((1 : Nat) : Int)) (h14 : R 129 14 = (T : Int)) (h19 : T < 524288) : BO xs n d0 N i C R := by
  have kc : C 3 4 = -3 := e72w (w := 1) (by decide) hT hk hv
  have g3 : nb ≤ 8 := X.2.1.1.2.2.1
  have g4 : C 9 1 = (m : Int) := X.2.1.1.2.2.2.1
  have g5 : R 131 8 = (m : Int) := X.2.1.1.2.2.2.2.1
  have g6 : m ≤ 16 := X.2.1.1.2.2.2.2.2
  have ok := X.2.2.2.choose_spec.2.2.1
  by_cases full : m = 16
  · refine BO_f (f := 2) hT ok (by decide) (e72_1 kc (Or.inl rfl) (fun d R0 => ?_)) (fun e C0 => r205full (w := 1) (by decide) X.1.1 hk hv (Or.inr ⟨rfl, by rw [g5]; omega⟩) e C0)
    rw [n76, h76_0]
    simp only [mc9]
    rw [g4, if_neg (by omega), e70 (d + 9) 2 R0, cK0, pR0, h76_22, if_pos (show ret01 76 0 = true from rfl)]
  · have hm : m < 16 := by omega
    obtain ⟨C2, R2, t1, t2, T2, X2, q14, fc2, fr2, le2, z2⟩ := BEG (xs := xs) (n := n) (w := 1) (by decide) hT X hk hv h14 h19 (by rw [g5]; omega) (by omega)
    have ok2 := X2.2.2.2.choose_spec.2.2.1
    have x1 := X2.1.1
    have g52 : R2 131 8 = (m : Int) := X2.2.1.1.2.2.2.2.1
    have at91 : ∀ (C0 R1 : Sto), (∀ e : Nat, drf xs n (e + 20) 207 [(2, 129)] R2 (9, 0) R1) → ∀ e : Nat, 150 ≤ e → ∃ o1 o2 o3 : Option Vv, den (e + 1) 205 [(2, 129)] (Sg xs n (mix C0 R)) = Rn e 205 329 [some (2, 129), o1, o2, o3] [] (Sg xs n (mix C0 R1)) := by
      intro C0 R1 h e he
      obtain ⟨e', rfl⟩ : ∃ e', e = e' + 20 := ⟨e - 20, by omega⟩
      refine ⟨some (0, 1), none, none, ?_⟩
      rw [t2 (e' + 16) C0, h205_91, if_neg (by decide), if_pos (show ((1 : Nat) : Int) = 1 from rfl), h e' C0, cK9, pRv, h205_219]
      rfl
    -- the reference counts
    have cnt : ∀ (e : Nat) (C0 F : Sto) (f : Int) (r k : Nat), F 136 = R2 136 → k + r = m → Rn (e + 19) 207 20 [some (2, 129), some (0, 16 + (m : Int)), some (0, f), some (0, cntE (fun z => R2 136 (16 + z)) f k), some (0, 16 + (k : Int))] [] (Sg xs n (mix C0 F)) = Rn (e + 19) 207 20 [some (2, 129), some (0, 16 + (m : Int)), some (0, f), some (0, cntE (fun z => R2 136 (16 + z)) f m), some (0, 16 + (m : Int))] [] (Sg xs n (mix C0 F)) := by
      intro e C0 F f r
      induction r with
      | zero =>
        intro k hF hk
        have e1 : k = m := by omega
        rw [e1]
      | succ r ih =>
        intro k hF hk
        have cb := cntE_b (fun z => R2 136 (16 + z)) f k
        have nx := ih (k + 1) hF (by omega)
        rw [show cntE (fun z => R2 136 (16 + z)) f (k + 1) = cntE (fun z => R2 136 (16 + z)) f k + (if R2 136 (16 + (k : Int)) = f then 1 else 0) from rfl] at nx
        rw [h207_20, if_neg (by omega), if_pos (inb_t (by omega) (by omega))]
        simp only [mr136]
        rw [hF]
        by_cases q : R2 136 (16 + (k : Int)) = f
        · rw [if_pos q] at nx
          rw [if_neg (fun z => z q), h207_43, w32_idP (by omega) (by omega), w32_idP (by omega) (by omega), show 16 + (k : Int) + 1 = 16 + ((k + 1 : Nat) : Int) by omega]
          exact nx
        · rw [if_neg q] at nx
          rw [if_pos q, h207_43, w32_idP (by omega) (by omega), w32_idP (by omega) (by omega), show 16 + (k : Int) + 1 = 16 + ((k + 1 : Nat) : Int) by omega]
          exact nx
    have at20 : ∀ (e : Nat) (C0 F : Sto) (f : Int), F 136 = R2 136 → drf xs n (e + 19) 202 [(2, 129)] R2 (0, f) F → den (e + 20) 207 [(2, 129)] (Sg xs n (mix C0 R2)) = Rn (e + 19) 207 20 [some (2, 129), some (0, 16 + (m : Int)), some (0, f), some (0, cntE (fun z => R2 136 (16 + z)) f m), some (0, 16 + (m : Int))] [] (Sg xs n (mix C0 F)) := by
      intro e C0 F f hF h
      have e1 := r200 (xs := xs) (n := n) (R := R2) (e + 18) (k := 1) (by decide) (by decide) C0
      rw [show (7 : Int) + 1 = 8 from rfl, g52] at e1
      rw [n207, h207_0, e1, cK0]
      show Rn (e + 19) 207 7 [some (2, 129), none, none, none, none] [(0, (m : Int)), (0, 16)] (Sg xs n (mix C0 R2)) = _
      rw [h207_7, h C0, cK0, pR0, h207_13, w32_idP (by omega) (by omega)]
      exact cnt e C0 F f m 0 hF (by omega)
    have nop : ∀ (e : Nat) (C0 F : Sto) (l1 l2 : Int) (o3 o4 : Option Vv), ¬ F 129 21 = 0 → Rn (e + 19) 207 68 [some (2, 129), some (0, l1), some (0, l2), o3, o4] [] (Sg xs n (mix C0 F)) = some ((9, 0), Sg xs n (mix C0 F)) := by
      intro e C0 F l1 l2 o3 o4 wf
      rw [h207_68, r196n (e + 18) wf C0, cK9, pRv, h207_72, r202n (e + 18) wf C0, cK0, pR0, h207_76]
      simp only [mr129]
      rw [if_pos wf, h207_100, r196n (e + 18) wf C0, cK9, pRv, h207_104]
      simp only [mr129]
      rw [if_neg wf]
    have cl30 : ∀ (d : Nat) (R0 : Sto), den (d + 11) 76 [(2, 2)] (Sg xs n (mix C R0)) = cK (den (d + 10) 75 [(2, 2)] (Sg xs n (mix C2 R0))) (fun v s1 => Rn (d + 10) 76 34 [some (2, 2), some (2, 9), none, none] (pushR v []) s1) := by
      intro d R0
      rw [n76, h76_0]
      simp only [mc9]
      rw [g4, if_pos (by omega), t1 (d + 7) R0, cK9, pRv, h76_30]
    obtain ⟨f, hf, c1, r1⟩ | ⟨f, hf, c1, r1⟩ := NB (xs := xs) (n := n) T2 X2
    · have if8 := inb_t (show 0 ≤ (f : Int) by omega) (show (f : Int) < 8 by omega)
      have gf := X2.2.1.2.2.2 f hf
      have ec : cntE (fun z => R2 136 (16 + z)) f m = C2 12 f := by
        rw [gf.1.1]
        exact cntE_c m (fun k hk => ((X2.2.1.2.2.1 k hk).1.1).symm)
      have a20 := fun (e : Nat) (C0 : Sto) => at20 e C0 R2 (f : Int) rfl (r1 (e + 17))
      rw [ec] at a20
      by_cases h3 : C2 12 f < 3
      · obtain ⟨C3, R3, s1, s2, T3, X3, tf3, _, le3⟩ := tokX (xs := xs) (n := n) T2 X2
        have x3 := X3.1.1
        have ok3 := X3.2.2.2.choose_spec.2.2.1
        have fc3 := fC0_t fc2 (fC0_tk tf3)
        have fr3 := fR0_t fr2 (fR0_tk tf3)
        have h33 : C3 12 f < 3 := by rw [tf3.1 12 (by decide)]; exact h3
        have cl64 : ∀ (d : Nat) (R0 : Sto), den (d + 11) 76 [(2, 2)] (Sg xs n (mix C R0)) = cK (den (d + 10) 75 [(2, 2)] (Sg xs n (mix C3 R0))) (fun v s1 => Rn (d + 10) 76 68 [some (2, 2), some (2, 9), some (0, (f : Int)), none] (pushR v []) s1) := by
          intro d R0
          rw [cl30 d R0, c1 (d + 8) R0, cK0, pR0, h76_34, if_pos (by omega), if_pos if8]
          simp only [mc12]
          rw [if_pos h3, s1 (d + 7) R0, cK9, pRv, h76_64]
        have rf72 : ∀ (e : Nat) (C0 : Sto), den (e + 20) 207 [(2, 129)] (Sg xs n (mix C0 R2)) = cK (den (e + 19) 202 [(2, 129)] (Sg xs n (mix C0 R3))) (fun v s1 => Rn (e + 19) 207 76 [some (2, 129), some (0, 16 + (m : Int)), some (0, (f : Int)), none, none] (pushR v []) s1) := by
          intro e C0
          rw [a20 e C0, h207_20, if_pos (by omega)]
          simp only [mr129]
          rw [if_neg (fun z => z x1), if_pos (by omega), h207_68, r196 (e + 18) x1 (s2 (e + 15)) C0, cK9, pRv, h207_72]
        obtain ⟨t, ht, c3, r3⟩ | ⟨ff, hff, c3, r3⟩ := NB (xs := xs) (n := n) T3 X3
        · obtain ⟨h1, h2, hh⟩ := HAS (xs := xs) (n := n) X3.2.1 (f := f) (t := t) hf
          have cl85 : ∀ (d : Nat) (R0 : Sto), den (d + 11) 76 [(2, 2)] (Sg xs n (mix C R0)) = Rn (d + 10) 76 85 [some (2, 2), some (2, 9), some (0, (f : Int)), some (0, (t : Int))] [(0, bB ((nxE (C3 10) (C3 11) f m).testBit t = true))] (Sg xs n (mix C3 R0)) := by
            intro d R0
            rw [cl64 d R0, c3 (d + 8) R0, cK0, pR0, h76_68, if_pos (by omega), if_pos if8]
            simp only [mc14]
            rw [h1, c181 (d + 9) _ t (by omega) (by omega), cK0, pR0]
          have rf92 : ∀ (e : Nat) (C0 : Sto), den (e + 20) 207 [(2, 129)] (Sg xs n (mix C0 R2)) = Rn (e + 19) 207 92 [some (2, 129), some (0, 16 + (m : Int)), some (0, (f : Int)), none, some (0, (t : Int))] [(0, bB ((nxE (C3 10) (C3 11) f m).testBit t = true))] (Sg xs n (mix C0 R3)) := by
            intro e C0
            rw [rf72 e C0, r3 (e + 17) C0, cK0, pR0, h207_76]
            simp only [mr129]
            rw [if_neg (fun z => z x3), hh (e + 17) C0, cK0, pR0]
          by_cases ed : (nxE (C3 10) (C3 11) f m).testBit t = true
          · have wf := wr_f (R := R3) (k := 3) (by decide)
            refine ⟨flS C3 3, wrgS R3 3, fun e C0 he => at91 C0 _ (fun e C0 => ?_) e he, fC0_t fc3 fC0_fl, fR0_t fr3 fR0_wr, Or.inl ⟨e72_1 kc (Or.inl rfl) (fun d R0 => ?_) d0, FT_0 T3 (by decide), ok20_fl ok3⟩⟩
            · rw [rf92 e C0, bB_t ed, h207_92, if_neg (by decide), r193 (e + 18) x3 C0, cK9, pRv, h207_100, r196n (e + 18) wf C0, cK9, pRv, h207_104]
              simp only [mr129]
              rw [if_neg wf]
            · rw [cl85 d R0, bB_t ed, h76_85, if_neg (by decide), e70 (d + 9) 3 R0, cK0, pR0, h76_93, if_pos (show ret01 76 0 = true from rfl)]
          · have G3 := DG_edge X3.2.1 hf ht hm h33
            have e4' := fun d => e4 (xs := xs) (n := n) d X3.2.1 hf ht hm h33
            have T4 : RTk N (edC C3 m f t (C3 12 f) (C3 13 t) ((nxE (C3 10) (C3 11) f m ||| 2 ^ t : Nat) : Int)) R3 := RTk_c (by funext j; rw [ed_f (by decide)]) (by funext j; rw [ed_f (by decide)]) rfl (fun _ _ _ => rfl) T3
            have ez : ∀ z : Int, ¬ (z = 10 ∨ z = 11 ∨ z = 16 ∨ z = 12 ∨ z = 13 ∨ z = 14 ∨ z = 9) → edC C3 m f t (C3 12 f) (C3 13 t) ((nxE (C3 10) (C3 11) f m ||| 2 ^ t : Nat) : Int) z = C3 z := fun z hz => by
              funext j
              exact ed_f hz
            generalize edC C3 m f t (C3 12 f) (C3 13 t) ((nxE (C3 10) (C3 11) f m ||| 2 ^ t : Nat) : Int) = C4 at G3 e4' T4 ez
            obtain ⟨C5, R4, p1, p2, T5, tf, _, le5⟩ := tok (xs := xs) (n := n) T4
            have c33 : C4 3 3 = C3 3 3 := by rw [ez 3 (by decide)]
            have rz : ∀ z : Int, ¬ (z = 131 ∨ z = 136 ∨ z = 137) → up (up (up R3 136 (16 + (m : Int)) f) 137 (16 + (m : Int)) t) 131 8 ((m + 1 : Nat) : Int) z = R3 z := fun z hz => by
              funext j
              rw [up_ne (by omega), up_ne (by omega), up_ne (by omega)]
            have r131 : ∀ j : Int, ¬ j = 8 → up (up (up R3 136 (16 + (m : Int)) f) 137 (16 + (m : Int)) t) 131 8 ((m + 1 : Nat) : Int) 131 j = R3 131 j := fun j hj => by rw [up_ni hj, up_ne (by decide), up_ne (by decide)]
            have X4 : RX nb (m + 1) i T C4 (up (up (up R3 136 (16 + (m : Int)) f) 137 (16 + (m : Int)) t) 131 8 ((m + 1 : Nat) : Int)) := by
              obtain ⟨⟨y1, y2, y3, y4, y5⟩, _, s, l⟩ := X3
              exact ⟨⟨by rw [rz 129 (by decide)]; exact y1, by rw [ez 2 (by decide)]; exact y2, by rw [ez 2 (by decide)]; exact y3, by rw [rz 129 (by decide)]; exact y4, by rw [rz 129 (by decide)]; exact y5⟩, G3, DS_c (ez 5 (by decide)) (ez 22 (by decide)) (ez 23 (by decide)) (fun j _ _ => r131 j (by omega)) (by rw [rz 129 (by decide)]) s, DL_c (by rw [ez 19 (by decide)]) (by rw [ez 19 (by decide)]) (fun z _ _ => ez z (by omega)) (fun z _ _ => rz z (by omega)) (by rw [rz 129 (by decide)]) (r131 13 (by decide)) l⟩
            have tf' : tkF C4 C5 (up (up (up R3 136 (16 + (m : Int)) f) 137 (16 + (m : Int)) t) 131 8 ((m + 1 : Nat) : Int)) (up (up (up R4 136 (16 + (m : Int)) f) 137 (16 + (m : Int)) t) 131 8 ((m + 1 : Nat) : Int)) := by
              refine ⟨tf.1, tf.2.1, fun z hz => ?_, fun j hj => ?_⟩
              · funext j
                unfold up
                rw [tf.2.2.1 z hz]
              · rw [up_ne (by decide), up_ne (by decide), up_ne (by decide), up_ne (by decide), up_ne (by decide), up_ne (by decide)]
                exact tf.2.2.2 j hj
            refine ⟨C5, up (up (up R4 136 (16 + (m : Int)) f) 137 (16 + (m : Int)) t) 131 8 ((m + 1 : Nat) : Int), fun e C0 he => at91 C0 _ (fun e C0 => ?_) e he, fC0_t fc3 (fC0_t (fun z j q => by rw [ez z (by omega)]) (fC0_tk tf)), fR0_t (fR0_t fr3 (fR0_tk tf)) (fR0_t (fR0_u (by omega)) (fR0_t (fR0_u (by omega)) (fR0_u (by omega)))), Or.inr (Or.inr ⟨e72_1 kc (Or.inr rfl) (fun d R0 => ?_) d0, nb, m + 1, T ||| 2 ^ 1, RTk_hi (by decide) (RTk_hi (by decide) (RTk_hi (by decide) T5)), RX_T (T := T) (fun k hk => or_bit (by omega)) (RX_tk tf' X4), ?_, or_19 h19 (by decide), by omega⟩)⟩
            · have i32 := inb_t (show 0 ≤ 16 + (m : Int) by omega) (show 16 + (m : Int) < 32 by omega)
              have e1 := r200 (xs := xs) (n := n) (R := up (up R4 136 (16 + (m : Int)) f) 137 (16 + (m : Int)) t) (e + 18) (k := 1) (by decide) (by decide) C0
              have e2 := r201 (xs := xs) (n := n) (R := up (up R4 136 (16 + (m : Int)) f) 137 (16 + (m : Int)) t) (e + 18) (k := 1) (v := ((m + 1 : Nat) : Int)) (by decide) (by decide) C0
              rw [show (7 : Int) + 1 = 8 from rfl] at e1 e2
              rw [up_ne (by decide), up_ne (by decide), tf.2.2.1 131 (by decide), X3.2.1.1.2.2.2.2.1] at e1
              rw [rf92 e C0, bB_f ed, h207_92, if_pos rfl, h207_100, r196 (e + 18) x3 (p2 (e + 15)) C0, cK9, pRv, h207_104]
              simp only [mr129, ur136, ur137]
              rw [tf.2.2.2 21 (by decide), if_pos x3, if_pos i32, if_pos i32, e1, cK0]
              show Rn (e + 19) 207 134 [some (2, 129), some (0, 16 + (m : Int)), some (0, (f : Int)), none, some (0, (t : Int))] [(0, (m : Int)), (0, 1), (2, 129)] _ = _
              rw [h207_134, w1 (by omega), e2, cK9, pRv, h207_139]
            · rw [cl85 d R0, bB_f ed, h76_85, if_pos rfl, e4' (d + 8) R0, cK9, pRv, h76_100, p1 (d + 7) R0, cK9, pRv, h76_107]
            · rw [up_ne (by decide), up_ne (by decide), up_ne (by decide), tf.2.2.2 14 (by decide), tf3.2.2.2 14 (by decide)]
              exact q14
        · have wf := wr_f (R := R3) hff
          refine ⟨flS C3 ff, wrgS R3 ff, fun e C0 he => at91 C0 _ (fun e C0 => ?_) e he, fC0_t fc3 fC0_fl, fR0_t fr3 fR0_wr, Or.inl ⟨e72_1 kc (Or.inl rfl) (fun d R0 => ?_) d0, FT_0 T3 hff, ok20_fl ok3⟩⟩
          · rw [rf72 e C0, r3 (e + 17) C0, cK0, pR0, h207_76]
            simp only [mr129]
            rw [if_pos wf, h207_100, r196n (e + 18) wf C0, cK9, pRv, h207_104]
            simp only [mr129]
            rw [if_neg wf]
          · rw [cl64 d R0, c3 (d + 8) R0, cK0, pR0, h76_68, if_neg (fun z => z (by decide))]
      · have wf := wr_f (R := R2) (k := 2) (by decide)
        refine ⟨flS C2 2, wrgS R2 2, fun e C0 he => at91 C0 _ (fun e C0 => ?_) e he, fC0_t fc2 fC0_fl, fR0_t fr2 fR0_wr, Or.inl ⟨e72_1 kc (Or.inl rfl) (fun d R0 => ?_) d0, FT_0 T2 (by decide), ok20_fl ok2⟩⟩
        · have := gf.1.2
          rw [a20 e C0, h207_20, if_pos (by omega)]
          simp only [mr129]
          rw [if_neg (fun z => z x1), if_neg (fun z => z (by omega)), r193 (e + 18) x1 C0, cK9, pRv]
          exact nop e C0 _ _ _ _ _ wf
        · rw [cl30 d R0, c1 (d + 8) R0, cK0, pR0, h76_34, if_pos (by omega), if_pos if8]
          simp only [mc12]
          rw [if_neg h3, e70 (d + 9) 2 R0, cK0, pR0, h76_56, if_pos (show ret01 76 0 = true from rfl)]
    · have wf := wr_f (R := R2) hf
      have a20 := fun (e : Nat) (C0 : Sto) => at20 e C0 (wrgS R2 f) 0 (by unfold wrgS; funext j; rw [up_ne (by decide), up_ne (by decide)]) (r1 (e + 17))
      refine ⟨flS C2 f, wrgS R2 f, fun e C0 he => at91 C0 _ (fun e C0 => ?_) e he, fC0_t fc2 fC0_fl, fR0_t fr2 fR0_wr, Or.inl ⟨e72_1 kc (Or.inl rfl) (fun d R0 => ?_) d0, FT_0 T2 hf, ok20_fl ok2⟩⟩
      · rw [a20 e C0, h207_20, if_pos (by omega)]
        simp only [mr129]
        rw [if_pos wf]
        exact nop e C0 _ _ _ _ _ wf
      · rw [cl30 d R0, c1 (d + 8) R0, cK0, pR0, h76_34, if_neg (fun z => z (by decide))]
end S99z
