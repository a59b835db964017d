/-! Text: how a line begins and ends, on both sides -/
/-- a line up to its semicolon -/
def BO (xs : Int → Int) (n : Int × Int) (d0 : Nat) (N : Int) (i : Nat) (C R : Sto) : Prop := ∃ C1 R1 : Sto, (∀ (e : Nat) (C0 : Sto), 150 ≤ e → ∃ o1 o2 o3 : Option Vv, den (e + 1) 205 [(2, 129)] (Sg xs n (mix C0 R)) = Rn e 205 329 [some (2, 129), o1, o2, o3] [] (Sg xs n (mix C0 R1))) ∧ fC0 C C1 ∧ fR0 R R1 ∧ ((dcl xs n (d0 + 12) 72 [(2, 2)] C (0, 0) C1 ∧ FT C1 R1 ∧ ok20 C1) ∨ (dcl xs n (d0 + 12) 72 [(2, 2)] C (0, 0) C1 ∧ FT C1 (wrgS R1 1) ∧ ok20 C1 ∧ R1 129 21 = 0 ∧ ¬ (R1 129 19 = 3 ∧ R1 129 20 = 59)) ∨ (dcl xs n (d0 + 12) 72 [(2, 2)] C (0, 1) C1 ∧ ∃ nb m T : Nat, RTk N C1 R1 ∧ RX nb m i T C1 R1 ∧ R1 129 14 = T ∧ T < 524288 ∧ C 3 3 ≤ C1 3 3))
/-- a whole line -/
def LO (xs : Int → Int) (n : Int × Int) (d0 : Nat) (N : Int) (i : Nat) (C R R' : Sto) : Prop := (∃ C1 : Sto, dcl xs n (d0 + 12) 72 [(2, 2)] C (0, 0) C1 ∧ FT C1 R' ∧ fC0 C C1 ∧ ok20 C1) ∨ (∃ C1 C2 : Sto, dcl xs n (d0 + 12) 72 [(2, 2)] C (0, 1) C1 ∧ (∀ d : Nat, dcl xs n (d + 4) 71 [(2, 2), (2, -35)] C1 (0, 0) C2) ∧ FT C2 R' ∧ fC0 C C2 ∧ ok20 C2) ∨ (∃ C1 C2 : Sto, dcl xs n (d0 + 12) 72 [(2, 2)] C (0, 1) C1 ∧ (∀ d : Nat, dcl xs n (d + 4) 71 [(2, 2), (2, -35)] C1 (0, 1) C2) ∧ C2 5 9 = i ∧ fC0 C C2 ∧ (C2 3 4 = -38 ∨ C 3 3 < C2 3 3) ∧ ∃ nb m T : Nat, RTk N (up C2 5 9 ((i + 1 : Nat) : Int)) R' ∧ RX nb m (i + 1) T (up C2 5 9 ((i + 1 : Nat) : Int)) R' ∧ R' 129 14 = T ∧ T < 524288)
theorem kf_0 : ∀ k : Fin 38, kf 0 (-(2 + ((k.val : Nat) : Int))) = ((k.val : Nat) : Int) := by decide +kernel
theorem kSw_1 : ∀ k : Fin 8, kSw ((k.val : Nat) : Int) = ((k.val : Nat) : Int) + 1 := by decide +kernel
theorem kSw_2 : ∀ k : Fin 38, 8 ≤ k.val → ¬ kSw ((k.val : Nat) : Int) = 1 ∧ ¬ kSw ((k.val : Nat) : Int) = 2 ∧ ¬ kSw ((k.val : Nat) : Int) = 3 ∧ ¬ kSw ((k.val : Nat) : Int) = 4 ∧ ¬ kSw ((k.val : Nat) : Int) = 5 ∧ ¬ kSw ((k.val : Nat) : Int) = 6 ∧ ¬ kSw ((k.val : Nat) : Int) = 7 ∧ ¬ kSw ((k.val : Nat) : Int) = 8 := by decide +kernel
section S99t
variable {xs : Int → Int} {n : Int × Int} {C R : Sto} {N : Int} {nb m i T d0 : Nat}
theorem e72 (d : Nat) {k : Nat} (hk : k < 38) (h : C 3 4 = -(2 + (k : Int))) (R0 : Sto) : den (d + 12) 72 [(2, 2)] (Sg xs n (mix C R0)) = Rn (d + 11) 72 13 [some (2, 2)] [(0, (k : Int)), (2, (-51))] (Sg xs n (mix C R0)) := by
  have ok : okK (C 3 4) = true := okK_b (by omega) (by omega)
  have kf0 : kf 0 (C 3 4) = (k : Int) := by
    rw [h]
    exact kf_0 ⟨k, hk⟩
  rw [n72, h72_0]
  simp only [mc3]
  rw [if_pos ok, n325, h325_0, if_pos ok, kf0, cK0]
  rfl
theorem e72x (hT : RTk N C R) (h : C 3 4 < -9) : ∀ d : Nat, dcl xs n (d + 12) 72 [(2, 2)] C (0, 0) (flS C 1) := by
  intro d R0
  have tp := (tP_of hT.2.2.2).2.2.2.2.2.2.2.1
  obtain ⟨k, hk, e⟩ : ∃ k : Nat, k < 38 ∧ C 3 4 = -(2 + (k : Int)) := ⟨(-(C 3 4) - 2).toNat, by omega, by omega⟩
  have s := kSw_2 ⟨k, hk⟩ (by show 8 ≤ k; omega)
  obtain ⟨s1, s2, s3, s4, s5, s6, s7, s8⟩ := s
  rw [e72 d hk e R0, h72_13, if_pos (inb_t (by omega) (by omega)), if_neg s1, if_neg s2, if_neg s3, if_neg s4, if_neg s5, if_neg s6, if_neg s7, if_neg s8, e70 (d + 10) 1 R0, cK0, pR0, h72_102, if_pos (show ret01 72 0 = true from rfl)]
theorem r203 (d : Nat) {w : Int} : drf xs n (d + 2) 203 [(2, 129), (0, w)] R (0, bB ((w = 0 ∧ R 131 7 = 8) ∨ (w = 1 ∧ R 131 8 = 16))) R := by
  have hr : ret01 203 0 = true ∧ ret01 203 1 = true := ⟨rfl, rfl⟩
  intro C0
  have e0 := r200 (xs := xs) (n := n) (R := R) d (k := 0) (by decide) (by decide) C0
  have e1 := r200 (xs := xs) (n := n) (R := R) d (k := 1) (by decide) (by decide) C0
  rw [show (7 : Int) + 0 = 7 from rfl] at e0
  rw [show (7 : Int) + 1 = 8 from rfl] at e1
  have s14 : ¬ (w = 0 ∧ R 131 7 = 8) → Rn (d + 1) 203 14 [some (2, 129), some (0, w)] [] (Sg xs n (mix C0 R)) = some ((0, bB ((w = 0 ∧ R 131 7 = 8) ∨ (w = 1 ∧ R 131 8 = 16))), Sg xs n (mix C0 R)) := by
    intro z
    rw [h203_14]
    by_cases a : w = 1
    · rw [if_neg (fun y => y a), e1, cK0, pR0, h203_24]
      by_cases b : R 131 8 = 16
      · rw [if_neg (fun y => y b), h203_29, h203_34, bB_t (Or.inr ⟨a, b⟩), if_pos hr.2]
      · rw [if_pos b, h203_33, h203_34, bB_f (by omega), if_pos hr.1]
    · rw [if_pos a, h203_33, h203_34, bB_f (by omega), if_pos hr.1]
  rw [n203, h203_0]
  by_cases a : w = 0
  · rw [if_neg (fun y => y a), e0, cK0, pR0, h203_9]
    by_cases b : R 131 7 = 8
    · rw [if_pos b, h203_29, h203_34, bB_t (Or.inl ⟨a, b⟩), if_pos hr.2]
    · rw [if_neg b]
      exact s14 (by omega)
  · rw [if_pos a]
    exact s14 (by omega)
theorem r204 (d : Nat) {w : Int} : drf xs n (d + 1) 204 [(0, w)] R (0, bB (w = 4 ∨ w = 5 ∨ w = 6)) R := by
  have hr : ret01 204 0 = true ∧ ret01 204 1 = true := ⟨rfl, rfl⟩
  intro C0
  rw [n204, h204_0]
  simp only [h204_16, h204_21, hr, if_true]
  by_cases a : w = 4
  · rw [if_pos a, bB_t (by omega)]
  · rw [if_neg a]
    by_cases b : w = 5
    · rw [if_pos b, bB_t (by omega)]
    · rw [if_neg b]
      by_cases c : w = 6
      · rw [if_neg (fun y => y c), bB_t (by omega)]
      · rw [if_pos c, bB_f (by omega)]
/-- the reference begins a line -/
theorem r205 {w : Nat} {R2 : Sto} (hw : w ≤ 7) (x1 : R 129 21 = 0) (hk : R 129 19 = 0) (hv : R 129 20 = (w : Int)) (hT : R 129 14 = (T : Int)) (h19 : T < 524288) (nf : ¬ (((w : Int) = 0 ∧ R 131 7 = 8) ∨ ((w : Int) = 1 ∧ R 131 8 = 16))) (nt : (w = 4 ∨ w = 5 ∨ w = 6) → ¬ T.testBit w = true) (t2 : ∀ d : Nat, drf xs n (d + 3) 189 [(2, 129)] (up R 129 14 ((T ||| 2 ^ w : Nat) : Int)) (9, 0) R2) (e : Nat) (C0 : Sto) : den (e + 5) 205 [(2, 129)] (Sg xs n (mix C0 R)) = Rn (e + 4) 205 91 [some (2, 129), some (0, (w : Int)), none, none] [] (Sg xs n (mix C0 R2)) := by
  have p2 : 2 ^ w < 2147483648 := Nat.lt_of_le_of_lt (Nat.pow_le_pow_right (by decide) hw) (by decide)
  have at67 : ∀ o2 o3 : Option Vv, o2 = none → o3 = none → Rn (e + 4) 205 67 [some (2, 129), some (0, (w : Int)), o2, o3] [] (Sg xs n (mix C0 R)) = Rn (e + 4) 205 91 [some (2, 129), some (0, (w : Int)), none, none] [] (Sg xs n (mix C0 R2)) := by
    intro o2 o3 h2 h3
    rw [h2, h3, h205_67]
    simp only [mr129, ur129]
    rw [if_pos x1, hT, i_shl_bit (by omega), i_or_nat (by omega) p2, t2 (e + 1) C0, cK9, pRv]
  rw [n205, h205_0]
  simp only [mr129]
  rw [if_neg (fun z => z hk), hv, if_pos (by omega), r203 (e + 2) C0, cK0, pR0, h205_32, bB_f nf, if_pos rfl, r204 (e + 3) C0, cK0, pR0, h205_47]
  by_cases q : (w : Int) = 4 ∨ (w : Int) = 5 ∨ (w : Int) = 6
  · rw [bB_t q, if_neg (by decide)]
    simp only [mr129]
    rw [hT, tb_val (by omega) (by omega), bB_f (nt (by omega)), if_pos (by decide)]
    exact at67 _ _ rfl rfl
  · rw [bB_f q, if_pos rfl]
    exact at67 _ _ rfl rfl
theorem r205full {w : Nat} (hw : w ≤ 7) (x1 : R 129 21 = 0) (hk : R 129 19 = 0) (hv : R 129 20 = (w : Int)) (nf : ((w : Int) = 0 ∧ R 131 7 = 8) ∨ ((w : Int) = 1 ∧ R 131 8 = 16)) (e : Nat) (C0 : Sto) : den (e + 5) 205 [(2, 129)] (Sg xs n (mix C0 R)) = some ((9, 0), Sg xs n (mix C0 (wrgS R 2))) := by
  have wf := wr_f (R := R) (k := 2) (by decide)
  rw [n205, h205_0]
  simp only [mr129]
  rw [if_neg (fun z => z hk), hv, if_pos (by omega), r203 (e + 2) C0, cK0, pR0, h205_32, bB_t nf, if_neg (by decide), r193 (e + 3) x1 C0, cK9, pRv, h205_40, h205_67]
  simp only [mr129]
  rw [if_neg wf]
theorem r205told {w : Nat} (hw : w = 4 ∨ w = 5 ∨ w = 6) (x1 : R 129 21 = 0) (hk : R 129 19 = 0) (hv : R 129 20 = (w : Int)) (hT : R 129 14 = (T : Int)) (h19 : T < 524288) (nt : T.testBit w = true) (e : Nat) (C0 : Sto) : den (e + 5) 205 [(2, 129)] (Sg xs n (mix C0 R)) = some ((9, 0), Sg xs n (mix C0 (wrgS R 3))) := by
  have wf := wr_f (R := R) (k := 3) (by decide)
  rw [n205, h205_0]
  simp only [mr129]
  rw [if_neg (fun z => z hk), hv, if_pos (by omega), r203 (e + 2) C0, cK0, pR0, h205_32, bB_f (by omega), if_pos rfl, r204 (e + 3) C0, cK0, pR0, h205_47, bB_t (by omega), if_neg (by decide)]
  simp only [mr129]
  rw [hT, tb_val (by omega) (by omega), bB_t nt, if_neg (fun z => z rfl), r193 (e + 3) x1 C0, cK9, pRv, h205_67]
  simp only [mr129]
  rw [if_neg wf]
theorem r205x (x1 : R 129 21 = 0) (h : ¬ (R 129 19 = 0 ∧ R 129 20 ≤ 7)) (e : Nat) (C0 : Sto) : den (e + 5) 205 [(2, 129)] (Sg xs n (mix C0 R)) = some ((9, 0), Sg xs n (mix C0 (wrgS R 1))) := by
  have at16 : Rn (e + 4) 205 16 [some (2, 129), none, none, none] [] (Sg xs n (mix C0 R)) = some ((9, 0), Sg xs n (mix C0 (wrgS R 1))) := by
    rw [h205_16, r193 (e + 3) x1 C0, cK9, pRv, h205_21]
  rw [n205, h205_0]
  simp only [mr129]
  by_cases q : R 129 19 = 0
  · rw [if_neg (fun z => z q), if_neg (by omega)]
    exact at16
  · rw [if_pos q]
    exact at16
theorem r329n (e : Nat) (h : ¬ R 129 21 = 0) (o1 o2 o3 : Option Vv) (C0 : Sto) : Rn e 205 329 [some (2, 129), o1, o2, o3] [] (Sg xs n (mix C0 R)) = some ((9, 0), Sg xs n (mix C0 R)) := by
  rw [h205_329]
  simp only [mr129]
  rw [if_neg h]
/-- a fault ahead of the line's rest -/
theorem BO_f {f : Int} (hT : RTk N C R) (ok : ok20 C) (hf : ¬ f = 0) (c : ∀ d : Nat, dcl xs n (d + 12) 72 [(2, 2)] C (0, 0) (flS C f)) (r : ∀ (e : Nat) (C0 : Sto), den (e + 5) 205 [(2, 129)] (Sg xs n (mix C0 R)) = some ((9, 0), Sg xs n (mix C0 (wrgS R f)))) : BO xs n d0 N i C R := by
  refine ⟨flS C f, wrgS R f, fun e C0 he => ⟨none, none, none, ?_⟩, fC0_fl, fR0_wr, Or.inl ⟨c d0, ?_, ok20_fl ok⟩⟩
  · obtain ⟨e', rfl⟩ : ∃ e', e = e' + 4 := ⟨e - 4, by omega⟩
    rw [r329n (e' + 4) (wr_f hf)]
    exact r e' C0
  · unfold FT flS wrgS
    rw [up_ni (show ¬ (2 : Int) = 3 by decide), up_at, up_at, up_at, up_ni (show ¬ (21 : Int) = 22 by decide), up_at]
    exact ⟨rfl, hT.2.2.1.1, hf⟩
theorem FT_15 {C1 : Sto} {v : Int} (h : FT C1 R) : FT C1 (up R 129 15 v) := by
  unfold FT at h ⊢
  rw [up_ni (show ¬ (21 : Int) = 15 by decide), up_ni (show ¬ (22 : Int) = 15 by decide)]
  exact h
/-- the line's end -/
theorem BO_LO (hi : i < 700) (h15 : R 129 15 = (i : Int)) (B : BO xs n d0 N i C R) : ∃ R' : Sto, (∀ e : Nat, 151 ≤ e → drf xs n e 205 [(2, 129)] R (9, 0) R') ∧ fR0 R R' ∧ LO xs n d0 N i C R R' := by
  obtain ⟨C1, R1, b1, b2, b3, b4⟩ := B
  obtain ⟨c1, c2, c3⟩ | ⟨c1, c2, c3, c4, c5⟩ | ⟨c1, nb, m, T, c2, c3, c4, c5, c6⟩ := b4
  · refine ⟨R1, fun e he C0 => ?_, b3, Or.inl ⟨C1, c1, c2, b2, c3⟩⟩
    obtain ⟨e', rfl⟩ : ∃ e', e = e' + 1 := ⟨e - 1, by omega⟩
    obtain ⟨o1, o2, o3, x⟩ := b1 e' C0 (by omega)
    rw [x]
    exact r329n e' c2.2.2 o1 o2 o3 C0
  · refine ⟨up (wrgS R1 1) 129 15 (w32 (wrgS R1 1 129 15 + 1)), fun e he C0 => ?_, fR0_t b3 (fR0_t fR0_wr (fR0_u (by omega))), Or.inl ⟨C1, c1, FT_15 c2, b2, c3⟩⟩
    obtain ⟨e', rfl⟩ : ∃ e', e = e' + 2 := ⟨e - 2, by omega⟩
    obtain ⟨o1, o2, o3, x⟩ := b1 (e' + 1) C0 (by omega)
    rw [x, h205_329]
    simp only [mr129]
    rw [if_pos c4, r195 e' C0, cK0, pR0, h205_343, bB_f (fun z => c5 z.2), if_neg (fun z => z rfl), r193 e' c4 C0, cK9, pRv, h205_351, h205_358]
    simp only [mr129, ur129]
  · have k35 := (tP_of c2.2.2.2).1.2.2.1
    have tg := (tP_of c2.2.2.2).2.2.2.2.2.2.2.1
    have kc0 := okK_0 (okK_b tg.1 tg.2)
    have x1 := c3.1.1
    by_cases q : C1 3 4 = -35
    · have rk := k35.mp q
      clear tg k35
      obtain ⟨C2, R2, t1, t2, t3, t4, t5, t6, t7⟩ := tokX (xs := xs) (n := n) c2 c3
      have r15 : R2 129 15 = (i : Int) := t4.2.2.1.2.2.2.2.1.2
      have c59 : C2 5 9 = (i : Int) := t4.2.2.1.2.2.2.2.1.1
      refine ⟨up R2 129 15 ((i + 1 : Nat) : Int), fun e he C0 => ?_, fR0_t b3 (fR0_t (fR0_tk t5) (fR0_u (by omega))), Or.inr (Or.inr ⟨C1, C2, c1, fun d R0 => ?_, c59, fC0_t b2 (fC0_tk t5), by omega, nb, m, T, ?_, ?_, ?_, c5⟩)⟩
      · obtain ⟨e', rfl⟩ : ∃ e', e = e' + 5 := ⟨e - 5, by omega⟩
        obtain ⟨o1, o2, o3, x⟩ := b1 (e' + 4) C0 (by omega)
        rw [x, h205_329]
        simp only [mr129]
        rw [if_pos x1, r195 (e' + 3) C0, cK0, pR0, h205_343, bB_t ⟨x1, rk.1, rk.2⟩, if_pos (by decide), t2 (e' + 1) C0, cK9, pRv, h205_358]
        simp only [mr129, ur129]
        rw [r15, w1 (by omega)]
      · rw [n71, h71_0]
        simp only [mc3]
        rw [if_pos (by rw [kc0]; rfl), if_pos q, t1 d R0, cK9, pRv, h71_24]
      · unfold RTk at t3 ⊢
        rw [show up C2 5 9 ((i + 1 : Nat) : Int) 3 = C2 3 by funext j; rw [up_ne (by decide)], show up C2 5 9 ((i + 1 : Nat) : Int) 4 = C2 4 by funext j; rw [up_ne (by decide)], show up R2 129 15 ((i + 1 : Nat) : Int) 130 = R2 130 by funext j; rw [up_ne (by decide)], up_ni (show ¬ (16 : Int) = 15 by decide), up_ni (show ¬ (17 : Int) = 15 by decide), up_ni (show ¬ (18 : Int) = 15 by decide), up_ni (show ¬ (19 : Int) = 15 by decide), up_ni (show ¬ (20 : Int) = 15 by decide)]
        exact t3
      · obtain ⟨⟨y1, y2, y3, y4, y5⟩, g, s, l⟩ := t4
        obtain ⟨s1, s2, s3, s4, s5, s6, s7⟩ := s
        have cz : ∀ z : Int, ¬ z = 5 → up C2 5 9 ((i + 1 : Nat) : Int) z = C2 z := fun z hz => by funext j; rw [up_ne hz]
        have rz : ∀ z : Int, ¬ z = 129 → up R2 129 15 ((i + 1 : Nat) : Int) z = R2 z := fun z hz => by funext j; rw [up_ne hz]
        refine ⟨⟨by rw [up_ni (by decide)]; exact y1, by rw [cz 2 (by decide)]; exact y2, by rw [cz 2 (by decide)]; exact y3, by rw [up_ni (by decide)]; exact y4, by rw [up_ni (by decide)]; exact y5⟩, DG_c (fun z _ _ => cz z (by omega)) (fun z _ _ => rz z (by omega)) (by rw [rz 131 (by decide)]) (by rw [rz 131 (by decide)]) g, ?_, DL_c (by rw [cz 19 (by decide)]) (by rw [cz 19 (by decide)]) (fun z _ _ => cz z (by omega)) (fun z _ _ => rz z (by omega)) (up_ni (by decide)) (by rw [rz 131 (by decide)]) l⟩
        unfold DS
        rw [rz 131 (by decide), cz 22 (by decide), cz 23 (by decide), up_ni (show ¬ (5 : Int) = 9 by decide), up_ni (show ¬ (6 : Int) = 9 by decide), up_ni (show ¬ (7 : Int) = 9 by decide), up_ni (show ¬ (8 : Int) = 9 by decide), up_ni (show ¬ (10 : Int) = 9 by decide), up_ni (show ¬ (11 : Int) = 9 by decide), up_ni (show ¬ (12 : Int) = 9 by decide), up_at, up_at]
        exact ⟨s1, s2, s3, s4, ⟨rfl, rfl⟩, s6, s7⟩
      · rw [up_ni (by decide), t5.2.2.2 14 (by decide)]
        exact c4
    · have nk : ¬ (R1 129 21 = 0 ∧ R1 129 19 = 3 ∧ R1 129 20 = 59) := fun z => q (k35.mpr z.2)
      refine ⟨up (wrgS R1 1) 129 15 (w32 (wrgS R1 1 129 15 + 1)), fun e he C0 => ?_, fR0_t b3 (fR0_t fR0_wr (fR0_u (by omega))), Or.inr (Or.inl ⟨C1, flS C1 1, c1, fun d R0 => ?_, FT_15 ?_, fC0_t b2 fC0_fl, ok20_fl c3.2.2.2.choose_spec.2.2.1⟩)⟩
      · obtain ⟨e', rfl⟩ : ∃ e', e = e' + 2 := ⟨e - 2, by omega⟩
        obtain ⟨o1, o2, o3, x⟩ := b1 (e' + 1) C0 (by omega)
        rw [x, h205_329]
        simp only [mr129]
        rw [if_pos x1, r195 e' C0, cK0, pR0, h205_343, bB_f nk, if_neg (fun z => z rfl), r193 e' x1 C0, cK9, pRv, h205_351, h205_358]
        simp only [mr129, ur129]
      · rw [n71, h71_0]
        simp only [mc3]
        rw [if_pos (by rw [kc0]; rfl), if_neg q, e70 (d + 2) 1 R0, cK0, pR0, h71_16, if_pos (show ret01 71 0 = true from rfl)]
      · unfold FT flS wrgS
        rw [up_ni (show ¬ (2 : Int) = 3 by decide), up_at, up_at, up_at, up_ni (show ¬ (21 : Int) = 22 by decide), up_at]
        exact ⟨rfl, c2.2.2.1.1, by decide⟩
end S99t
