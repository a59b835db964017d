/-! Text: lines of laws -/
section S99za
variable {xs : Int → Int} {n : Int × Int} {C C' R R' : Sto} {N : Int} {nb m i T d0 : Nat}
theorem e38 (d : Nat) {k : Nat} (hk : k < 3) : dcl xs n (d + 2) 38 [(2, 19), (0, (k : Int))] C (0, bB (C 22 k < C 23 k)) C := by
  intro R0
  have ik := inb_t (show 0 ≤ (k : Int) by omega) (show (k : Int) < 3 by omega)
  rw [n38a, h38a_0, c179, cK0, pR0, h38a_6, bB_t ⟨by omega, by omega⟩, if_neg (by decide), if_pos ik, if_pos ik]
  simp only [mc22, mc23]
  by_cases q : C 22 k < C 23 k
  · rw [if_neg (fun z => z q), h38a_29, bB_t q, if_pos (show ret01 38 1 = true from rfl)]
  · rw [if_pos q, h38a_28, h38a_29, bB_f q, if_pos (show ret01 38 0 = true from rfl)]
theorem e72_7 {b : Int} {C1 : Sto} (h : C 3 4 = -9) (hb : b = 0 ∨ b = 1) (c : dcl xs n (d0 + 11) 80 [(2, 2)] C (0, b) C1) : dcl xs n (d0 + 12) 72 [(2, 2)] C (0, b) C1 := by
  intro R0
  have hr : ret01 72 b = true := by
    obtain z | z := hb <;> (rw [z]; rfl)
  have s : kSw ((7 : Nat) : Int) = 8 := rfl
  rw [e72 d0 (k := 7) (by decide) h R0, h72_13, if_pos (inb_t (by decide) (by decide)), s, if_neg (by decide), if_neg (by decide), if_neg (by decide), if_neg (by decide), if_neg (by decide), if_neg (by decide), if_neg (by decide), if_pos rfl, c R0, cK0, pR0, h72_96, if_pos hr]
/-- a formula begins -/
theorem FS_0 {w k : Nat} {C5 R4 : Sto} (t : RTk N C5 R4) (x : R4 129 21 = 0 ∧ C5 2 2 = 0 ∧ C5 2 3 = -1 ∧ R4 129 22 = -1 ∧ R4 129 25 = 0) (h25 : C5 2 5 = 0 ∧ C5 2 6 = 0) (hc : C5 19 0 = (w : Int) ∧ R4 129 26 = (w : Int) ∧ w ≤ 64 ∧ C5 19 6 = (w : Int) ∧ R4 131 13 = (w : Int)) (kn : ∀ t : Nat, t < w → knP (C5 20 t) (C5 21 t) (R4 140 (64 + t)) (R4 141 (64 + t))) (ok : ok20 C5) (iv : 0 < C5 3 3 ∧ (¬ C5 3 4 = -38 → 1 < C5 3 3)) : FS N w 0 0 0 0 0 w w C5 R4 := by
  refine ⟨t, ⟨x.1, x.2.1, x.2.2.1, x.2.2.2.1⟩, ⟨⟨h25.2, x.2.2.2.2, by decide⟩, ⟨hc.1, hc.2.1, hc.2.2.1⟩, ⟨hc.2.2.2.1, hc.2.2.2.2⟩, ⟨h25.1, Nat.le_refl 0, by omega⟩⟩, kn, fun t z => by omega, ok, ⟨Nat.le_refl w, ?_⟩, ⟨iv.1, fun z => by have := iv.2 z; omega⟩⟩
  rw [Nat.add_zero, Nat.sub_self]
  rfl
theorem BO_law2 {TT w k i' c' W : Nat} {C3 C5 C7 R3 R4 R5 : Sto} (hT : RTk N C R) (X : RX nb m i T C R) (h14 : R 129 14 = (T : Int)) (hk3 : k < 3) (c330 : 0 ≤ C 3 3) (fc5 : fC0 C C5) (fr6 : fR0 R (up R5 139 (3 + (k : Int)) (R5 131 13))) (at91 : ∀ (e : Nat) (C0 : Sto), 150 ≤ e → ∃ o1 o2 o3 : Option Vv, den (e + 1) 205 [(2, 129)] (Sg xs n (mix C0 R)) = Rn e 205 329 [some (2, 129), o1, o2, o3] [] (Sg xs n (mix C0 (up R5 139 (3 + (k : Int)) (R5 131 13))))) (X3 : RX nb m i T C3 R3) (l1 : C3 19 0 = (w : Int) ∧ R3 129 26 = (w : Int) ∧ w ≤ 64 ∧ C3 19 6 = (w : Int) ∧ R3 131 13 = (w : Int)) (l2 : ∀ t : Nat, t < w → knP (C3 20 t) (C3 21 t) (R3 140 (64 + t)) (R3 141 (64 + t))) (l3 : ok20 C3) (l4 : ∀ k : Nat, k < 3 → (C3 22 k = R3 138 (3 + k) ∧ C3 23 k = R3 139 (3 + k)) ∧ ∃ u v : Nat, C3 22 k = u ∧ C3 23 k = v ∧ u ≤ v ∧ v ≤ w ∧ (u < v → hgt (R3 140) (R3 141) (64 + (u : Int)) (v - u) = some 1)) (c5z : ∀ z : Int, ¬ (z = 2 ∨ z = 22) → C5 z = C3 z) (c52 : ∀ j : Int, ¬ (j = 5 ∨ j = 6) → C5 2 j = C3 2 j) (c522 : ∀ j : Int, C5 22 j = if j = (k : Int) then (w : Int) else C3 22 j) (r4z : ∀ z : Int, ¬ z = 138 → R4 z = R3 z) (r4138 : ∀ j : Int, R4 138 j = if j = 3 + (k : Int) then (w : Int) else R3 138 j) (u2 : fFR w R4 R5) (ff : fFC w 0 C5 C7) (F7 : FS N w 1 0 0 i' 0 c' W C7 R5) (TT19 : TT < 524288) (TTk : TT.testBit (16 + k) = true) (TTo : ∀ j : Nat, ¬ j = 16 + k → ¬ j = 7 → TT.testBit j = T.testBit j) (r314 : R3 129 14 = (TT : Int)) (le : C 3 3 ≤ C3 3 3) (cl : dcl xs n (d0 + 12) 72 [(2, 2)] C (0, 1) (up C7 23 (k : Int) (W : Int))) : BO xs n d0 N i C R := by
  obtain ⟨f1, ⟨f2, f3, f4, f5⟩, ⟨⟨f6, f6', _⟩, ⟨f7, f7', f7''⟩, ⟨f8, f8'⟩, ⟨f9, _, f9'⟩⟩, f10, _, f12, ⟨f13, f13'⟩, _⟩ := F7
  have WW : R5 131 13 = (W : Int) := f8'
  have cW : c' = W := by omega
  subst cW
  have hlt : w < c' := by
    have := hgt_le _ _ f13'
    omega
  rw [WW] at fr6 at91
  obtain ⟨u2a, u2b, u2c, u2d⟩ := u2
  obtain ⟨fa, fb, fc, fd, fe, _, fg⟩ := ff
  have c3z : ∀ z : Int, ((3 < z ∧ z < 19) ∨ z = 23) → C7 z = C3 z := fun z hz => (fa z (by omega)).trans (c5z z (by omega))
  have c722 : C7 22 = C5 22 := fa 22 (by omega)
  have rz : ∀ z : Int, ¬ z = 139 → up R5 139 (3 + (k : Int)) (c' : Int) z = R5 z := fun z hz => by funext j; rw [up_ne hz]
  have cz : ∀ z : Int, ¬ z = 23 → up C7 23 (k : Int) (c' : Int) z = C7 z := fun z hz => by funext j; rw [up_ne hz]
  have r3z : ∀ z : Int, ¬ (z = 129 ∨ z = 131 ∨ z = 138 ∨ z = 140 ∨ z = 141) → R5 z = R3 z := fun z hz => (u2a z (by omega)).trans (r4z z (by omega))
  have r3131 : ∀ j : Int, ¬ j = 13 → R5 131 j = R3 131 j := fun j hj => by rw [u2c j hj, r4z 131 (by decide)]
  have r3129 : ∀ j : Int, j < 17 → R5 129 j = R3 129 j := fun j hj => by rw [u2b j (by omega), r4z 129 (by decide)]
  have r140 : ∀ j : Int, j < 64 + (w : Int) → R5 140 j = R3 140 j ∧ R5 141 j = R3 141 j := fun j hj => by
    have := u2d j hj
    rw [r4z 140 (by decide), r4z 141 (by decide)] at this
    exact this
  refine ⟨up C7 23 (k : Int) (c' : Int), up R5 139 (3 + (k : Int)) (c' : Int), at91, fC0_t fc5 (fC0_t (fC0_F (s := w) (a := 0) ⟨fa, fb, fc, fd, fe, fun j z => by omega, fg⟩) (fC0_u (by omega))), fr6, Or.inr (Or.inr ⟨cl, nb, m, TT, ?_, ?_, ?_, TT19, ?_⟩)⟩
  · exact RTk_c (cz 3 (by decide)) (cz 4 (by decide)) (rz 130 (by decide)) (fun j _ _ => by rw [rz 129 (by decide)]) f1
  · obtain ⟨_, g, ⟨s1, s2, s3, s4, s5, s6, s7⟩, _⟩ := X3
    refine ⟨⟨by rw [rz 129 (by decide)]; exact f2, by rw [cz 2 (by decide)]; exact f3, by rw [cz 2 (by decide)]; exact f4, by rw [rz 129 (by decide)]; exact f5, by rw [rz 129 (by decide)]; exact f6'⟩, DG_c (fun z z1 z2 => by rw [cz z (by omega)]; exact c3z z (by omega)) (fun z z1 z2 => by rw [rz z (by omega)]; exact r3z z (by omega)) (by rw [rz 131 (by decide)]; exact r3131 7 (by decide)) (by rw [rz 131 (by decide)]; exact r3131 8 (by decide)) g, ?_, ?_⟩
    · unfold DS
      rw [cz 5 (by decide), c3z 5 (by decide), rz 131 (by decide), r3131 9 (by decide), r3131 10 (by decide), r3131 11 (by decide), r3131 12 (by decide), rz 129 (by decide), r3129 15 (by decide), TTo 4 (by omega) (by decide), TTo 5 (by omega) (by decide), TTo 6 (by omega) (by decide), cz 22 (by decide), c722]
      refine ⟨s1, s2, s3, s4, s5, s6, fun j hj => ?_⟩
      rw [c522]
      by_cases q : j = k
      · subst q
        rw [if_pos rfl, up_at]
        exact ⟨fun _ => by omega, fun _ => TTk⟩
      · rw [if_neg (by omega), up_ni (by omega), c3z 23 (by decide), TTo (16 + j) (by omega) (by omega)]
        exact s7 j hj
    · refine ⟨c', ⟨by rw [cz 19 (by decide)]; exact f7, by rw [rz 129 (by decide)]; exact f7', f7'', by rw [cz 19 (by decide)]; exact f8, by rw [rz 131 (by decide)]; exact WW⟩, ?_, ?_, fun j hj => ?_⟩
      · rw [cz 20 (by decide), cz 21 (by decide), rz 140 (by decide), rz 141 (by decide)]
        exact f10
      · unfold ok20
        rw [cz 20 (by decide)]
        exact f12
      · rw [cz 22 (by decide), c722, c522, rz 138 (by decide), u2a 138 (by decide), r4138, rz 140 (by decide), rz 141 (by decide)]
        by_cases q : j = k
        · subst q
          rw [if_pos rfl, if_pos rfl, up_at, up_at]
          exact ⟨⟨rfl, rfl⟩, w, c', rfl, rfl, by omega, Nat.le_refl _, fun _ => f13'⟩
        · rw [if_neg (by omega), if_neg (by omega), up_ni (by omega), up_ni (by omega), c3z 23 (by decide), r3z 139 (by decide)]
          obtain ⟨a1, u, v, a2, a3, a4, a5, a6⟩ := l4 j hj
          refine ⟨a1, u, v, a2, a3, a4, by omega, fun z => ?_⟩
          rw [← a6 z]
          exact hgt_c (v - u) (fun q hq => r140 _ (by omega))
  · rw [rz 129 (by decide), r3129 14 (by decide)]
    exact r314
  · rw [cz 3 (by decide)]
    have e3 : C5 3 3 = C3 3 3 := by rw [c5z 3 (by decide)]
    rw [e3] at fg
    omega
theorem law_T {T k : Nat} (h19 : T < 524288) (hk : k < 3) : ∃ TT : Nat, TT < 524288 ∧ TT.testBit (16 + k) = true ∧ (∀ j : Nat, ¬ j = 16 + k → ¬ j = 7 → TT.testBit j = T.testBit j) ∧ i_or ((T ||| 2 ^ 7 : Nat) : Int) (i_shl 1 ((16 + k : Nat) : Int)) = (TT : Int) ∧ i_and (i_shr ((T ||| 2 ^ 7 : Nat) : Int) ((16 + k : Nat) : Int)) 1 = bB (T.testBit (16 + k) = true) := by
  have b16 : 16 + k < 31 := by omega
  have b19 : 16 + k < 19 := by omega
  have b32 : 16 + k < 32 := by omega
  have b7 : ¬ 7 = 16 + k := by omega
  have h209 : T ||| 2 ^ 7 < 524288 := or_19 h19 (by decide)
  have T31 : T ||| 2 ^ 7 < 2147483648 := Nat.lt_trans h209 (by decide)
  have p16 : 2 ^ (16 + k) < 2147483648 := Nat.lt_of_le_of_lt (Nat.pow_le_pow_right (by decide) (Nat.le_of_lt b19)) (by decide)
  refine ⟨(T ||| 2 ^ 7) ||| 2 ^ (16 + k), or_19 h209 b19, or_bit1, fun j h1 h2 => ?_, ?_, ?_⟩
  · rw [or_bit (fun z => h1 z.symm), or_bit (fun z => h2 z.symm)]
  · rw [i_shl_bit b16, i_or_nat T31 p16]
  · rw [tb_val T31 b32, or_bit b7]
theorem BO_law (hT : RTk N C R) (X : RX nb m i T C R) (hk : R 129 19 = 0) (hv : R 129 20 = ((7 : Nat) : Int)) (h14 : R 129 14 = (T : Int)) (h19 : T < 524288) : BO xs n d0 N i C R := by
  have kc : C 3 4 = -9 := e72w (w := 7) (by decide) hT hk hv
  have c330 : 0 ≤ C 3 3 := by rw [hT.2.2.1.2.1]; exact hT.2.2.1.2.2.1
  obtain ⟨C2, R2, t1, t2, T2, X2, q14, fc2, fr2, le2, _, st2⟩ := BEG (xs := xs) (n := n) (w := 7) (by decide) hT X hk hv h14 h19 (by omega) (by omega)
  have ok2 := X2.2.2.2.choose_spec.2.2.1
  have x1 := X2.1.1
  have at91 : ∀ (C0 R1 : Sto), (∀ e : Nat, drf xs n (e + 150) 209 [(2, 129)] R2 (9, 0) R1) → ∀ e : Nat, 150 ≤ e → ∃ o1 o2 o3 : Option Vv, den (e + 1) 205 [(2, 129)] (Sg xs n (mix C0 R)) = Rn e 205 329 [some (2, 129), o1, o2, o3] [] (Sg xs n (mix C0 R1)) := by
    intro C0 R1 h e he
    obtain ⟨e', rfl⟩ : ∃ e', e = e' + 150 := ⟨e - 150, by omega⟩
    refine ⟨some (0, 7), none, none, ?_⟩
    rw [t2 (e' + 146) C0, h205_91, if_neg (by decide), if_neg (by decide), if_neg (by decide), if_neg (by decide), if_neg (by decide), if_neg (by decide), if_neg (by decide), h e' C0, cK9, pRv]
    rfl
  have tf := (tP_of T2.2.2.2).2.2.2.2.2.1
  have tg := (tP_of T2.2.2.2).2.2.2.2.2.2.2.1
  have kc1 := okK_b tg.1 tg.2
  by_cases rule : kf 2 (C2 3 4) = 1
  · have rk := tf.1.mp rule
    have kr := tf.2 rk.1 rk.2.1 rk.2.2
    obtain ⟨k, hk3, ek⟩ : ∃ k : Nat, k < 3 ∧ R2 129 20 - 8 = (k : Int) := ⟨(R2 129 20 - 8).toNat, by omega, by omega⟩
    have n38 : ¬ C2 3 4 = -38 := fun z => by rw [z] at rule; exact absurd rule (by decide)
    rw [ek] at kr
    clear tf tg
    have ik := inb_t (show 0 ≤ (k : Int) by omega) (show (k : Int) < 3 by omega)
    have ik6 := inb_t (show 0 ≤ 3 + (k : Int) by omega) (show 3 + (k : Int) < 6 by omega)
    have b16 : 16 + k < 31 := by omega
    have b19 : 16 + k < 19 := by omega
    have b7 : ¬ 7 = 16 + k := by omega
    have y1 : -2147483648 ≤ R2 129 20 - 8 ∧ R2 129 20 - 8 < 2147483648 := by omega
    have y2 : -2147483648 ≤ 3 + (k : Int) ∧ 3 + (k : Int) < 2147483648 := by omega
    have y3 : -2147483648 ≤ 16 + (k : Int) ∧ 16 + (k : Int) < 2147483648 := by omega
    have y4 : 16 + (k : Int) = ((16 + k : Nat) : Int) := by omega
    have nlt8 : ¬ R2 129 20 < 8 := by omega
    have nlt10 : ¬ 10 < R2 129 20 := by omega
    have rv8 : w32 (R2 129 20 - 8) = (k : Int) := by rw [w32_idP y1.1 y1.2]; exact ek
    have w3k : w32 (3 + (k : Int)) = 3 + (k : Int) := w32_idP y2.1 y2.2
    have w16 : w32 (16 + (k : Int)) = ((16 + k : Nat) : Int) := by rw [w32_idP y3.1 y3.2]; exact y4
    obtain ⟨TT, TT19, TTk, TTo, TTi, TTb⟩ := law_T h19 hk3
    have told := X2.2.2.1.2.2.2.2.2.2 k hk3
    have at30 : ∀ (e : Nat) (C0 : Sto), den (e + 150) 209 [(2, 129)] (Sg xs n (mix C0 R2)) = Rn (e + 149) 209 30 [some (2, 129), none] [] (Sg xs n (mix C0 R2)) := by
      intro e C0
      rw [n209, h209_0]
      simp only [mr129]
      rw [if_neg (fun z => z rk.1), if_neg nlt8, if_pos nlt10]
    have cl49 : ∀ (d : Nat) (R0 : Sto), den (d + 11) 80 [(2, 2)] (Sg xs n (mix C R0)) = Rn (d + 10) 80 49 [some (2, 2), some (0, (k : Int))] [(0, bB (C2 22 k < C2 23 k))] (Sg xs n (mix C2 R0)) := by
      intro d R0
      rw [n80, h80_0, t1 (d + 7) R0, cK9, pRv, h80_7]
      simp only [mc3]
      rw [if_pos kc1, if_pos rule, if_pos kc1, kr, e38 (d + 8) hk3 R0, cK0, pR0]
    by_cases tb : T.testBit (16 + k) = true
    · have wf := wr_f (R := R2) (k := 3) (by decide)
      refine ⟨flS C2 3, wrgS R2 3, fun e C0 he => at91 C0 _ (fun e C0 => ?_) e he, fC0_t fc2 fC0_fl, fR0_t fr2 fR0_wr, Or.inl ⟨e72_7 kc (Or.inl rfl) (fun R0 => ?_), FT_0 T2 (by decide), ok20_fl ok2⟩⟩
      · rw [at30 e C0, h209_30]
        simp only [mr129]
        rw [if_neg (fun z => z x1), rv8, w16, q14, TTb, bB_t tb, if_neg (fun z => z rfl), r193 (e + 148) x1 C0, cK9, pRv, h209_65]
        simp only [mr129]
        rw [if_neg wf]
      · rw [cl49 d0 R0, bB_t (told.mp tb), h80_49, if_neg (by decide), e70 (d0 + 9) 3 R0, cK0, pR0, h80_57, if_pos (show ret01 80 0 = true from rfl)]
    · -- the law's formula
      have ntold : ¬ C2 22 k < C2 23 k := fun z => tb (told.mpr z)
      have T3 : RTk N C2 (up R2 129 14 (TT : Int)) := RTk_c rfl rfl (by funext j; rw [up_ne (by decide)]) (fun j z1 z2 => up_ni (by omega)) T2
      obtain ⟨C3, R3, s1, s2, T3', X3, tf3, st3, le3⟩ := tokX (xs := xs) (n := n) T3 (RX_14 (v := (TT : Int)) X2)
      obtain ⟨w, l1, l2, l3, l4⟩ := X3.2.2.2
      -- both begin
      generalize hC5 : up (up (up C3 22 (k : Int) (w : Int)) 2 5 0) 2 6 0 = C5
      generalize hR4 : up R3 138 (3 + (k : Int)) (w : Int) = R4
      have c5z : ∀ z : Int, ¬ (z = 2 ∨ z = 22) → C5 z = C3 z := fun z hz => by
        funext j
        rw [← hC5, up_ne (by omega), up_ne (by omega), up_ne (by omega)]
      have c52 : ∀ j : Int, ¬ (j = 5 ∨ j = 6) → C5 2 j = C3 2 j := fun j hj => by rw [← hC5, up_ni (by omega), up_ni (by omega), up_ne (by decide)]
      have c522 : ∀ j : Int, C5 22 j = if j = (k : Int) then (w : Int) else C3 22 j := fun j => by
        rw [← hC5, up_ne (by decide), up_ne (by decide)]
        by_cases q : j = (k : Int)
        · rw [if_pos q, q, up_at]
        · rw [if_neg q, up_ni q]
      have r4z : ∀ z : Int, ¬ z = 138 → R4 z = R3 z := fun z hz => by
        funext j
        rw [← hR4, up_ne hz]
      have r4138 : ∀ j : Int, R4 138 j = if j = 3 + (k : Int) then (w : Int) else R3 138 j := fun j => by
        rw [← hR4]
        by_cases q : j = 3 + (k : Int)
        · rw [if_pos q, q, up_at]
        · rw [if_neg q, up_ni q]
      have F0 : FS N w 0 0 0 0 0 w w C5 R4 := by
        refine FS_0 (k := 0) (RTk_c (c5z 3 (by decide)) (c5z 4 (by decide)) (r4z 130 (by decide)) (fun j _ _ => by rw [r4z 129 (by decide)]) T3') ⟨by rw [r4z 129 (by decide)]; exact X3.1.1, by rw [c52 2 (by decide)]; exact X3.1.2.1, by rw [c52 3 (by decide)]; exact X3.1.2.2.1, by rw [r4z 129 (by decide)]; exact X3.1.2.2.2.1, by rw [r4z 129 (by decide)]; exact X3.1.2.2.2.2⟩ ⟨by rw [← hC5, up_ni (by decide), up_at], by rw [← hC5, up_at]⟩ ⟨by rw [c5z 19 (by decide)]; exact l1.1, by rw [r4z 129 (by decide)]; exact l1.2.1, l1.2.2.1, by rw [c5z 19 (by decide)]; exact l1.2.2.2.1, by rw [r4z 131 (by decide)]; exact l1.2.2.2.2⟩ (by rw [c5z 20 (by decide), c5z 21 (by decide), r4z 140 (by decide), r4z 141 (by decide)]; exact l2) (by unfold ok20; rw [c5z 20 (by decide)]; exact l3) ?_
        rw [c5z 3 (by decide)]
        obtain z | z := st2
        · exact absurd z n38
        · refine ⟨by omega, fun y => ?_⟩
          obtain x | x := st3
          · exact absurd x y
          · omega
      have at105 : ∀ (e : Nat) (C0 : Sto), den (e + 150) 209 [(2, 129)] (Sg xs n (mix C0 R2)) = cK (den (e + 149) 212 [(2, 129)] (Sg xs n (mix C0 R4))) (fun v s1 => Rn (e + 149) 209 110 [some (2, 129), some (0, (k : Int))] (pushR v []) s1) := by
        intro e C0
        have e6 := r200 (xs := xs) (n := n) (R := R3) (e + 148) (k := 6) (by decide) (by decide) C0
        rw [show (7 : Int) + 6 = 13 from rfl, l1.2.2.2.2] at e6
        rw [at30 e C0, h209_30]
        simp only [mr129]
        rw [if_neg (fun z => z x1), rv8, w16, q14, TTb, bB_f tb, if_pos (by decide), h209_65]
        simp only [mr129, ur129]
        rw [if_pos x1, q14, w16, TTi, s2 (e + 146) C0, cK9, pRv, h209_92, e6, cK0, w3k]
        show Rn (e + 149) 209 105 [some (2, 129), some (0, (k : Int))] [(0, (w : Int)), (0, 3 + (k : Int)), (2, 138)] (Sg xs n (mix C0 R3)) = _
        rw [h209_105, if_pos ik6, ur138, hR4]
      have cl76 : ∀ (d : Nat) (R0 : Sto), den (d + 11) 80 [(2, 2)] (Sg xs n (mix C R0)) = cK (lp xs n (d + 3) 1 1 ((0 : Nat) : Int) C5 R0) (fun v s1 => Rn (d + 10) 80 80 [some (2, 2), some (0, (k : Int))] (pushR v []) s1) := by
        intro d R0
        rw [cl49 d R0, bB_f ntold, h80_49, if_pos rfl, s1 (d + 7) R0, cK9, pRv, h80_65, n39, h39_0, if_pos ik]
        simp only [mc19, uc22]
        rw [l1.2.2.2.1, cK9, pRv, h80_76, n81, h81_0]
        simp only [uc2]
        rw [hC5]
        rfl
      have fc5 : fC0 C C5 := by
        refine fC0_t fc2 (fC0_t (fC0_tk tf3) ?_)
        rw [← hC5]
        exact fC0_t (fC0_u (Or.inr ⟨by decide, by decide⟩)) (fC0_t (fC0_u (Or.inl rfl)) (fC0_u (Or.inl rfl)))
      have fr4 : fR0 R R4 := by
        refine fR0_t fr2 (fR0_t (fR0_t (fR0_u (z := 129) (j := 14) (v := (TT : Int)) (Or.inl ⟨rfl, by decide, by decide⟩)) (fR0_tk tf3)) ?_)
        rw [← hR4]
        exact fR0_u (Or.inr (Or.inr (Or.inr (Or.inr ⟨by decide, by decide, Int.le_add_of_nonneg_right (Int.natCast_nonneg k)⟩))))
      obtain ⟨R5, u1, u2, u3⟩ := (FORM (xs := xs) (n := n) (d := d0 + 3) 700).1 N w 0 0 0 0 w w C5 R4 1 (by decide) F0 (Or.inl rfl) (Or.inl ⟨rfl, by decide⟩)
      have at123 : ∀ (e : Nat) (C0 : Sto), den (e + 150) 209 [(2, 129)] (Sg xs n (mix C0 R2)) = some ((9, 0), Sg xs n (mix C0 (up R5 139 (3 + (k : Int)) (R5 131 13)))) := by
        intro e C0
        have e6 := r200 (xs := xs) (n := n) (R := R5) (e + 148) (k := 6) (by decide) (by decide) C0
        rw [show (7 : Int) + 6 = 13 from rfl] at e6
        rw [at105 e C0, u1 (e + 149) (Nat.le_trans (show 12 + 8 * (8 - 0) + (64 - w) ≤ 140 from Nat.add_le_add_left (Nat.sub_le 64 w) 76) (Nat.le_trans (by decide) (Nat.le_add_left 149 e))) C0, cK9, pRv, h209_110, e6, cK0, w3k]
        show Rn (e + 149) 209 123 [some (2, 129), some (0, (k : Int))] [(0, R5 131 13), (0, 3 + (k : Int)), (2, 139)] (Sg xs n (mix C0 R5)) = _
        rw [h209_123, if_pos ik6, ur139]
      have fr6 : fR0 R (up R5 139 (3 + (k : Int)) (R5 131 13)) := fR0_t fr4 (fR0_t (fR0_F u2) (fR0_u (Or.inr (Or.inr (Or.inr (Or.inr ⟨by decide, by decide, Int.le_add_of_nonneg_right (Int.natCast_nonneg k)⟩))))))
      obtain ⟨C6, v1, v2, v3, v4⟩ | ⟨C6, p', i', c', w', l2', v1, F6, v3, v4, v5, v6, v7⟩ := u3
      · refine ⟨C6, up R5 139 (3 + (k : Int)) (R5 131 13), fun e C0 he => at91 C0 _ (fun e C0 => at123 e C0) e he, fC0_t fc5 (fC0_F v3), fr6, Or.inl ⟨e72_7 kc (Or.inl rfl) (fun R0 => ?_), FT_u (by decide) v2, v4⟩⟩
        rw [cl76 d0 R0, v1 R0, cK0, pR0, h80_80, if_neg (by decide)]
      · obtain y | y := TEn_1 (FS_i F6).2.2.2.2.2.1 v7
        · -- the formula's end
          obtain ⟨C7, g1, F7, g3, g4, g5⟩ := FS_flush (xs := xs) (n := n) (d0 + 3 + 3) F6 v6 (Or.inl rfl) (by decide)
          have e7 := e87 (xs := xs) (n := n) (d0 + 3) F6.2.2.1.1.1 g1
          have ln := fun R0 : Sto => lp_end (xs := xs) (n := n) (l2 := l2') (d0 + 3) F6 y (Or.inr rfl) e7 (Or.inr rfl) R0
          exact BO_law2 hT X h14 hk3 c330 fc5 fr6 (fun e C0 he => at91 C0 _ (fun e C0 => at123 e C0) e he) X3 l1 l2 l3 l4 c5z c52 c522 r4z r4138 u2 (fFC_t v3 g3) F7 TT19 TTk TTo (by rw [tf3.2.2.2 14 (by decide), up_at]) (Int.le_trans le2 le3) (e72_7 kc (Or.inr rfl) (fun R0 => by
            rw [cl76 d0 R0, v1 R0, ln R0, cK0, pR0, h80_80, if_pos (by decide), n40, h40_0, if_pos ik]
            simp only [mc19, uc23]
            rw [F7.2.2.1.2.2.1.1, cK9, pRv, h80_96]))
        · -- a second comparison
          obtain ⟨C7, x1', x2, x3, x4⟩ := XCMP (xs := xs) (n := n) (l2 := l2') (d0 + 3) F6 y.1 y.2
          have rk6 := (FS_i F6).2.2.2.2.1.2.2.1.mp y.1
          refine ⟨C7, up R5 139 (3 + (k : Int)) (R5 131 13), fun e C0 he => at91 C0 _ (fun e C0 => at123 e C0) e he, fC0_t fc5 (fC0_t (fC0_F v3) (fC0_F x3)), fr6, Or.inr (Or.inl ⟨e72_7 kc (Or.inl rfl) (fun R0 => ?_), ?_, x4, ?_, ?_⟩)⟩
          · rw [cl76 d0 R0, v1 R0, x1' R0, cK0, pR0, h80_80, if_neg (by decide)]
          · unfold FT wrgS at x2 ⊢
            rw [up_ne (show ¬ (129 : Int) = 139 by decide)]
            rw [up_ni (show ¬ (21 : Int) = 22 by decide), up_at, up_at] at x2 ⊢
            exact x2
          · rw [up_ne (by decide)]
            exact (FS_w F6).1
          · rw [up_ne (by decide), up_ne (by decide)]
            intro z
            have := z.2
            rw [this] at rk6
            exact absurd rk6.2 (by decide)
  · have nr : ¬ (R2 129 19 = 0 ∧ 8 ≤ R2 129 20 ∧ R2 129 20 ≤ 10) := fun z => rule (tf.1.mpr z)
    clear tf tg
    have wf := wr_f (R := R2) (k := 1) (by decide)
    refine ⟨flS C2 1, wrgS R2 1, fun e C0 he => at91 C0 _ (fun e C0 => ?_) e he, fC0_t fc2 fC0_fl, fR0_t fr2 fR0_wr, Or.inl ⟨e72_7 kc (Or.inl rfl) (fun R0 => ?_), FT_0 T2 (by decide), ok20_fl ok2⟩⟩
    · have at25 : Rn (e + 149) 209 25 [some (2, 129), none] [] (Sg xs n (mix C0 R2)) = some ((9, 0), Sg xs n (mix C0 (wrgS R2 1))) := by
        rw [h209_25, r193 (e + 148) x1 C0, cK9, pRv, h209_30]
        simp only [mr129]
        rw [if_pos wf, h209_65]
        simp only [mr129]
        rw [if_neg wf]
      rw [n209, h209_0]
      simp only [mr129]
      by_cases q1 : R2 129 19 = 0
      · rw [if_neg (fun z => z q1)]
        by_cases q2 : R2 129 20 < 8
        · rw [if_pos q2]
          exact at25
        · rw [if_neg q2, if_neg (by omega)]
          exact at25
      · rw [if_pos q1]
        exact at25
    · rw [n80, h80_0, t1 (d0 + 7) R0, cK9, pRv, h80_7]
      simp only [mc3]
      rw [if_pos kc1, if_neg rule, e70 (d0 + 9) 1 R0, cK0, pR0, h80_26, if_pos (show ret01 80 0 = true from rfl)]
end S99za
