/-! Text: operands and groups; formulas as a whole -/
section S99q
variable {xs : Int → Int} {n : Int × Int} {d : Nat}
theorem TEn_7 {a p : Nat} {C : Sto} (e : tPe (C 3 4)) : TEn 7 a p C := Or.inl (by have := e.1.2.2; omega)
theorem TEn_1 {a p : Nat} {C : Sto} (e : tPe (C 3 4)) (h : TEn 1 a p C) : ¬ kf 2 (C 3 4) = 3 ∨ (tkRk (C 3 4) = 4 ∧ CTp a p C) := by
  obtain y | y := h
  · exact Or.inl (fun z => by have := e.2.1.mp z; omega)
  · exact Or.inr y
theorem fFC_open {s a : Nat} {C : Sto} {x k y : Int} : fFC s a C (up (up (up C 2 6 x) 25 (a : Int) k) 2 5 y) := by
  refine ⟨fun z hz => ?_, fun j hj => ?_, fun j hj => ?_, fun j hj => ?_, fun j hj => ⟨?_, ?_⟩, fun j hj => ?_, ?_⟩
  · funext j
    rw [up_ne (by omega), up_ne (by omega), up_ne (by omega)]
  · rw [up_ni (by omega), up_ne (by decide), up_ni (by omega)]
  · rw [up_ne (by decide), up_ne (by decide), up_ne (by decide)]
  · rw [up_ne (by decide), up_ne (by decide), up_ne (by decide)]
  · rw [up_ne (by decide), up_ne (by decide), up_ne (by decide)]
  · rw [up_ne (by decide), up_ne (by decide), up_ne (by decide)]
  · rw [up_ne (by decide), up_ni (by omega), up_ne (by decide)]
  · rw [up_ne (show ¬ (3 : Int) = 2 by decide), up_ne (show ¬ (3 : Int) = 25 by decide), up_ne (show ¬ (3 : Int) = 2 by decide)]
    exact Int.le_refl _
theorem fFC_cl {s a : Nat} {C : Sto} {x y : Int} : fFC s a C (up (up C 2 5 x) 2 6 y) := by
  refine ⟨fun z hz => ?_, fun j hj => ?_, fun j hj => ?_, fun j hj => ?_, fun j hj => ⟨?_, ?_⟩, fun j hj => ?_, ?_⟩
  · funext j
    rw [up_ne (by omega), up_ne (by omega)]
  · rw [up_ni (by omega), up_ni (by omega)]
  · rw [up_ne (by decide), up_ne (by decide)]
  · rw [up_ne (by decide), up_ne (by decide)]
  · rw [up_ne (by decide), up_ne (by decide)]
  · rw [up_ne (by decide), up_ne (by decide)]
  · rw [up_ne (by decide), up_ne (by decide)]
  · rw [up_ne (show ¬ (3 : Int) = 2 by decide), up_ne (show ¬ (3 : Int) = 2 by decide)]
    exact Int.le_refl _
theorem fFR_25 {s : Nat} {R : Sto} {v : Int} : fFR s R (up R 129 25 v) := by
  refine ⟨fun z hz => ?_, fun j hj => ?_, fun j hj => ?_, fun j hj => ⟨?_, ?_⟩⟩
  · funext j
    rw [up_ne (by omega)]
  · rw [up_ni (by omega)]
  all_goals rw [up_ne (by decide)]
theorem fFC_opd {s a w : Nat} {C : Sto} {x k v y : Int} (hw : s ≤ w) : fFC s a C (up (up (up (up C 19 0 x) 20 (w : Int) k) 21 (w : Int) v) 19 6 y) := by
  refine ⟨fun z hz => ?_, fun j hj => ?_, fun j hj => ?_, fun j hj => ?_, fun j hj => ⟨?_, ?_⟩, fun j hj => ?_, ?_⟩
  · funext j
    rw [up_ne (by omega), up_ne (by omega), up_ne (by omega), up_ne (by omega)]
  · rw [up_ne (by decide), up_ne (by decide), up_ne (by decide), up_ne (by decide)]
  · rw [up_ne (by decide), up_ne (by decide), up_ne (by decide), up_ne (by decide)]
  · rw [up_ni (by omega), up_ne (by decide), up_ne (by decide), up_ni (by omega)]
  · rw [up_ne (by decide), up_ne (by decide), up_ni (by omega), up_ne (by decide)]
  · rw [up_ne (by decide), up_ni (by omega), up_ne (by decide), up_ne (by decide)]
  · rw [up_ne (by decide), up_ne (by decide), up_ne (by decide), up_ne (by decide)]
  · rw [up_ne (show ¬ (3 : Int) = 19 by decide), up_ne (show ¬ (3 : Int) = 21 by decide), up_ne (show ¬ (3 : Int) = 20 by decide), up_ne (show ¬ (3 : Int) = 19 by decide)]
    exact Int.le_refl _
/-- an opened group -/
theorem PG (q : Nat) (hl : ∀ q' : Nat, q' < q → CLM xs n d 212 1 1 12 q') (N : Int) (s h a i o c w : Nat) (C R : Sto) (l2 : Int) (hi : 700 ≤ i + q) (F : FS N s h a 0 i o c w C R) (k : C 3 4 = -33) : ∃ R' : Sto, (∀ e : Nat, 7 + 8 * (8 - o) + (64 - c) ≤ e → drf xs n e 217 [(2, 129)] R (9, 0) R') ∧ fFR s R R' ∧ (OUF xs n d s a i 1 l2 C R' ∨ OUS xs n d 7 N s (h + 1) a o c i 1 1 l2 C R') := by
  have i1 := (FS_i F).1
  have w0 := FS_w F
  have rk := (FS_i F).2.1.1.mp k
  have pre : C 3 4 = -33 ∨ (C 3 4 = -22 ∧ ¬ l2 = 0) := Or.inl k
  have ent : ∀ (e : Nat) (C0 : Sto), den (e + 7) 217 [(2, 129)] (Sg xs n (mix C0 R)) = Rn (e + 6) 217 14 [some (2, 129), none] [(0, 1)] (Sg xs n (mix C0 R)) := by
    intro e C0
    rw [n217, h217_0]
    simp only [mr129]
    rw [if_pos w0.1, r195 (e + 5) C0, cK0, pR0, bB_t ⟨w0.1, rk.1, rk.2⟩]
  by_cases ho : o < 8
  · have e5 := e83o (xs := xs) (n := n) d F k ho
    have F2 := FS_open F ho
    have pf : fFC s a C (up (up (up C 2 6 ((o : Int) + 1)) 25 (a : Int) (-33)) 2 5 ((a : Int) + 1)) := fFC_open
    have p25 : (up (up (up C 2 6 ((o : Int) + 1)) 25 (a : Int) (-33)) 2 5 ((a : Int) + 1)) 25 (a : Int) = -33 := by rw [up_ne (by decide), up_at]
    have p3 : (up (up (up C 2 6 ((o : Int) + 1)) 25 (a : Int) (-33)) 2 5 ((a : Int) + 1)) 3 4 = C 3 4 := by rw [up_ne (by decide), up_ne (by decide), up_ne (by decide)]
    have F2t := FS_tok (xs := xs) (n := n) F2 (by rw [p3, k]; decide)
    generalize up (up (up C 2 6 ((o : Int) + 1)) 25 (a : Int) (-33)) 2 5 ((a : Int) + 1) = C2 at e5 F2 pf p25 F2t
    obtain ⟨C3, R2, t1, t2, F3, t4, t5, t6⟩ := F2t
    have ln : ∀ R0 : Sto, lp xs n d 1 l2 i C R0 = lp xs n d 1 1 ((i + 1 : Nat) : Int) C3 R0 := fun R0 => (lp_ahead d F pre R0 e5).trans (lp_161 d i1 R0 t1)
    have q25 : C3 25 (a : Int) = -33 := by rw [t6, p25]
    have tr3 : TR 1 (a + 1) C3 := Or.inr (by rw [show a + 1 - 1 = a by omega, q25]; exact ⟨rfl, by decide⟩)
    have q1 : ∃ q', q = q' + 1 := ⟨q - 1, by omega⟩
    obtain ⟨q', rfl⟩ := q1
    obtain ⟨R3, u1, u2, u3⟩ := hl q' (by omega) N s h (a + 1) (i + 1) (o + 1) c w C3 R2 1 (by omega) F3 tr3 (Or.inl ⟨rfl, by decide⟩)
    have fr : fFR s R R3 := fFR_t (fFR_t fFR_25 t5) u2
    have fc : fFC s a C C3 := fFC_t pf (t4 a)
    have ent2 : ∀ (e : Nat) (C0 : Sto), 12 + 8 * (8 - (o + 1)) + (64 - c) ≤ e + 6 → den (e + 7) 217 [(2, 129)] (Sg xs n (mix C0 R)) = Rn (e + 6) 217 57 [some (2, 129), none] [] (Sg xs n (mix C0 R3)) := by
      intro e C0 he
      rw [ent e C0, h217_14]
      simp only [mr129]
      rw [if_neg (show ¬ (1 : Int) = 0 by decide), w0.2.2.2.2.2.2.2.2, if_pos (by omega), h217_31]
      simp only [mr129, ur129]
      rw [if_pos w0.1, w0.2.2.2.2.2.2.2.2, w32_idP (by omega) (by omega), t2 (e + 3) C0, cK9, pRv, h217_53, u1 (e + 6) he C0, cK9, pRv]
    obtain ⟨C4, v1, v2, v3, v4⟩ | ⟨C4, p', i', c', w', l2', v1, F4, v3, v4, v5, v6, v7⟩ := u3
    · refine ⟨R3, fun e he C0 => ?_, fr, Or.inl ⟨C4, fun R0 => (ln R0).trans (v1 R0), v2, fFC_t fc (fFC_m v3 (by omega)), v4⟩⟩
      obtain ⟨e', rfl⟩ : ∃ e', e = e' + 7 := ⟨e - 7, by omega⟩
      rw [ent2 e' C0 (by omega), h217_57]
      simp only [mr129]
      rw [if_pos v2.2.2, h217_78]
      simp only [mr129]
      rw [if_neg v2.2.2]
    · have w4 := FS_w F4
      have tq4 := (FS_i F4).2.1.2.1
      have te4 : tPe (C4 3 4) := (FS_i F4).2.2.2.2.2.1
      have fc4 : fFC s a C C4 := fFC_t fc (fFC_m v3 (by omega))
      have tr4 := TR_c tr3 v3
      by_cases k4 : C4 3 4 = -34
      · have rk4 := tq4.mp k4
        clear tq4 te4
        obtain ⟨C5, g1, F5, g3, g4, g5⟩ := FS_flush (xs := xs) (n := n) (d + 3) F4 v6 tr4 (by decide)
        have e6 := e86 (xs := xs) (n := n) d F5 g1
        have F6 := FS_close F5
        have pf6 : fFC s a C5 (up (up C5 2 5 (a : Int)) 2 6 (o : Int)) := fFC_cl
        have p36 : (up (up C5 2 5 (a : Int)) 2 6 (o : Int)) 3 4 = -34 := by rw [up_ne (by decide), up_ne (by decide), g5, k4]
        have F6t := FS_tok (xs := xs) (n := n) F6 (by rw [p36]; decide)
        generalize up (up C5 2 5 (a : Int)) 2 6 (o : Int) = C6 at e6 F6 pf6 p36 F6t
        obtain ⟨C7, R5, s1, s2, F7, s4, s5, s6⟩ := F6t
        have ln4 : ∀ R0 : Sto, lp xs n d 0 l2' i' C4 R0 = lp xs n d 0 l2' ((i' + 1 : Nat) : Int) C7 R0 := fun R0 => lp_close d F4 k4 (by omega) e6 s1 R0
        refine ⟨R5, fun e he C0 => ?_, fFR_t fr (fFR_t fFR_25 s5), Or.inr ⟨C7, 0, i' + 1, c', w' + p', l2', fun R0 => ((ln R0).trans (v1 R0)).trans (ln4 R0), F7, fFC_t fc4 (fFC_t (fFC_m g3 (by omega)) (fFC_t pf6 (s4 a))), v4, by omega, fun j z1 z2 => by omega, TEn_7 (FS_i F7).2.2.2.2.2.1⟩⟩
        obtain ⟨e', rfl⟩ : ∃ e', e = e' + 7 := ⟨e - 7, by omega⟩
        rw [ent2 e' C0 (by omega), h217_57]
        simp only [mr129]
        rw [if_neg (fun z => z w4.1), r195 (e' + 5) C0, cK0, pR0, h217_70, bB_t ⟨w4.1, rk4.1, rk4.2⟩, if_pos (by decide), h217_78]
        simp only [mr129, ur129]
        rw [if_pos w4.1, w4.2.2.2.2.2.2.2.2, w32_idP (by omega) (by omega), show ((o + 1 : Nat) : Int) - 1 = (o : Int) by omega, s2 (e' + 3) C0, cK9, pRv, h217_100]
      · have nk : ¬ (R3 129 21 = 0 ∧ R3 129 19 = 3 ∧ R3 129 20 = 41) := fun z => k4 (tq4.mpr z.2)
        have wf := wr_f (R := R3) (k := 1) (by decide)
        have ouf : OUF xs n d s (a + 1) i' 0 l2' C4 (wrgS R3 1) := by
          obtain y | y := TEn_1 te4 v7
          · have f26 : C4 2 6 = ((o + 1 : Nat) : Int) := F4.2.2.1.1.1
            have e7 := e87f (xs := xs) (n := n) (C := C4) d (by rw [f26]; omega)
            exact ⟨flS C4 1, fun R0 => lp_end d F4 y (Or.inl k4) e7 (Or.inl rfl) R0, FT_f F4 (by decide), fFC_fl, ok20_fl (FS_ok20 F4)⟩
          · exact XCMP d F4 y.1 y.2
        clear tq4 te4
        obtain ⟨C5, x1, x2, x3, x4⟩ := ouf
        refine ⟨wrgS R3 1, fun e he C0 => ?_, fFR_t fr fFR_wr, Or.inl ⟨C5, fun R0 => ((ln R0).trans (v1 R0)).trans (x1 R0), x2, fFC_t fc4 (fFC_m x3 (by omega)), x4⟩⟩
        obtain ⟨e', rfl⟩ : ∃ e', e = e' + 7 := ⟨e - 7, by omega⟩
        rw [ent2 e' C0 (by omega), h217_57]
        simp only [mr129]
        rw [if_neg (fun z => z w4.1), r195 (e' + 5) C0, cK0, pR0, h217_70, bB_f nk, if_neg (fun z => z rfl), r193 (e' + 5) w4.1 C0, cK9, pRv, h217_78]
        simp only [mr129]
        rw [if_neg wf]
  · have e5 := e83of (xs := xs) (n := n) d F k ho
    have wf := wr_f (R := R) (k := 2) (by decide)
    refine ⟨wrgS R 2, fun e he C0 => ?_, fFR_wr, Or.inl ⟨flS C 2, fun R0 => lp_ahead_f d F pre R0 e5, FT_f F (by decide), fFC_fl, ok20_fl (FS_ok20 F)⟩⟩
    obtain ⟨e', rfl⟩ : ∃ e', e = e' + 7 := ⟨e - 7, by omega⟩
    rw [ent e' C0, h217_14]
    simp only [mr129]
    rw [if_neg (show ¬ (1 : Int) = 0 by decide), w0.2.2.2.2.2.2.2.2, if_neg (fun z => z (by omega)), r193 (e' + 5) w0.1 C0, cK9, pRv, h217_31]
    simp only [mr129]
    rw [if_neg wf]
end S99q
