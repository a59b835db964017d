/-! Text: sums, products, conjunctions, whole formulas -/
section S99o
variable {xs : Int → Int} {n : Int × Int} {d : Nat}
theorem L216 (Q : Nat) (hcl : ∀ q : Nat, q < Q → CLM xs n d 217 7 7 7 q) : ∀ q : Nat, q ≤ Q → ∀ (N : Int) (s h a p i o c w : Nat) (C R : Sto) (l2 : Int), 700 ≤ i + q → FS N s (h + 1) a p i o c w C R → PR 6 a p C → TR 6 a C → TEn 7 a p C → ∃ R' : Sto, (∀ e : Nat, 7 + 8 * (8 - o) + (64 - c) ≤ e → ∀ (o1 : Option Vv) (C0 : Sto), Rn e 216 4 [some (2, 129), o1] [] (Sg xs n (mix C0 R)) = some ((9, 0), Sg xs n (mix C0 R'))) ∧ fFR s R R' ∧ (OUF xs n d s a i 0 l2 C R' ∨ OUS xs n d 6 N s (h + 1) a o c i 0 0 l2 C R') := by
  intro q
  induction q with
  | zero =>
    intro _ N s h a p i o c w C R l2 hi F
    have := (FS_i F).1
    omega
  | succ q ih =>
    intro hQ N s h a p i o c w C R l2 hi F hp ht te
    obtain ⟨i1, tp⟩ := FS_i F
    have w0 := FS_w F
    obtain ⟨_, _, _, tpd, tpe, _, _⟩ := tp
    by_cases k : tkRk (C 3 4) = 6
    · have rk := tpd.2.2.2.2.mp k
      have sg := tQ_s F.1.2.2.2 rk.1 (by omega)
      have hr : kf 3 (C 3 4) = 6 := by rw [tpe.2.2.1 (by omega)]; exact k
      have h2 := tpe.2.1.mpr (by omega)
      have ent : ∀ (e : Nat) (o1 : Option Vv) (C0 : Sto), Rn (e + 7) 216 4 [some (2, 129), o1] [] (Sg xs n (mix C0 R)) = Rn (e + 7) 216 22 [some (2, 129), none] [] (Sg xs n (mix C0 R)) := by
        intro e o1 C0
        rw [h216_4, r195 (e + 6) C0, cK0, pR0, h216_10]
        by_cases z : R 129 20 = 42
        · rw [bB_t ⟨w0.1, rk.1, z⟩, if_pos (by decide)]
        · rw [bB_f (fun y => z y.2.2), if_neg (fun y => y rfl), r195 (e + 6) C0, cK0, pR0, h216_19, bB_t ⟨w0.1, rk.1, by omega⟩, if_neg (by decide)]
      obtain ⟨hc, out⟩ | ⟨hc, R2, R3, t2, u1, fr, u3⟩ := BIN d (l2 := l2) (v := (R 129 20)) (hcl q (by omega)) F (by omega) hr h2 (by omega) (by rw [if_neg (by decide)]; exact hp) ht sg.1 sg.2 (by omega) (by omega) (Or.inr ⟨by omega, by omega⟩)
      · have wf : ¬ wrgS R 2 129 21 = 0 := by
          unfold wrgS
          rw [up_ni (by decide), up_at]
          decide
        refine ⟨wrgS R 2, fun e he o1 C0 => ?_, fFR_wr, Or.inl out⟩
        obtain ⟨e', rfl⟩ : ∃ e', e = e' + 7 := ⟨e - 7, by omega⟩
        rw [ent e' o1 C0, h216_22]
        simp only [mr129]
        rw [r211f (e' + 5) w0.1 (by omega) C0, cK9, pRv, h216_31, r196n (e' + 6) wf C0, cK9, pRv, h216_35, r217n (e' + 6) wf C0, cK9, pRv, h216_39, r210n (e' + 5) wf C0, cK9, pRv, h216_45]
        exact r216n4 (e' + 6) wf _ C0
      · have r1f : up R 129 26 ((c : Int) + 1) 129 21 = 0 := by rw [up_ni (by decide)]; exact w0.1
        obtain u3 | ⟨C', p', i', c', w', l2', y1, y2, y3, y4, y5, F5, y7, y8, y9, y10, y11, _, _⟩ := u3
        · have wf : ¬ R3 129 21 = 0 := by
            obtain ⟨_, _, x, _⟩ := u3
            exact x.2.2
          refine ⟨R3, fun e he o1 C0 => ?_, fr, Or.inl u3⟩
          obtain ⟨e', rfl⟩ : ∃ e', e = e' + 7 := ⟨e - 7, by omega⟩
          rw [ent e' o1 C0, h216_22]
          simp only [mr129]
          rw [r211 (e' + 5) w0.1 w0.2.2.2.2.2.2.2.1 (by omega) (by omega) C0, cK9, pRv, h216_31, r196 (e' + 6) r1f (t2 (e' + 3)) C0, cK9, pRv, h216_35, u1 (e' + 7) (by omega) C0, cK9, pRv, h216_39, r210n (e' + 5) wf C0, cK9, pRv, h216_45]
          exact r216n4 (e' + 6) wf _ C0
        · obtain ⟨R5, x1, x2, x3⟩ := ih (by omega) N s h a (p' + 1) i' o c' w' C' _ l2' (by omega) F5 y10 (TR_c ht y7) y11
          refine ⟨R5, fun e he o1 C0 => ?_, fFR_t fr (fFR_t (fFR_pt (by omega)) x2), ?_⟩
          · obtain ⟨e', rfl⟩ : ∃ e', e = e' + 7 := ⟨e - 7, by omega⟩
            rw [ent e' o1 C0, h216_22]
            simp only [mr129]
            rw [r211 (e' + 5) w0.1 w0.2.2.2.2.2.2.2.1 (by omega) (by omega) C0, cK9, pRv, h216_31, r196 (e' + 6) r1f (t2 (e' + 3)) C0, cK9, pRv, h216_35, u1 (e' + 7) (by omega) C0, cK9, pRv, h216_39, r210 (e' + 5) y2 y3 (by omega) (by omega) C0, cK9, pRv, h216_45]
            exact x1 (e' + 7) (by omega) _ C0
          · obtain x3 | x3 := x3
            · exact Or.inl (OUF_t y1 y7 x3)
            · exact Or.inr (OUS_t y1 y7 y8 (by omega) x3)
    · have z1 : ¬ (R 129 21 = 0 ∧ R 129 19 = 3 ∧ R 129 20 = 42) := fun z => k (tpd.2.2.2.2.mpr ⟨z.2.1, by omega⟩)
      have z2 : ¬ (R 129 21 = 0 ∧ R 129 19 = 3 ∧ R 129 20 = 47) := fun z => k (tpd.2.2.2.2.mpr ⟨z.2.1, by omega⟩)
      refine ⟨R, fun e he o1 C0 => ?_, fFR_r, Or.inr ⟨C, p, i, c, w, l2, fun R0 => rfl, F, fFC_r, by omega, by omega, hp, ?_⟩⟩
      · obtain ⟨e', rfl⟩ : ∃ e', e = e' + 7 := ⟨e - 7, by omega⟩
        rw [h216_4, r195 (e' + 6) C0, cK0, pR0, h216_10, bB_f z1, if_neg (fun y => y rfl), r195 (e' + 6) C0, cK0, pR0, h216_19, bB_f z2, if_pos rfl]
      · obtain z | z := te
        · exact Or.inl (by omega)
        · exact Or.inr z
theorem P216 (q : Nat) (h1 : CLM xs n d 217 7 7 7 q) (hl : ∀ q' : Nat, q' < q → CLM xs n d 217 7 7 7 q') : CLM xs n d 216 6 6 8 q := by
  intro N s h a i o c w C R l2 hi F ht ll
  obtain ⟨R1, u1, u2, u3⟩ := h1 N s h a i o c w C R l2 hi F (TR_up ht (by omega)) (by omega)
  obtain u3 | ⟨C', p', i', c', w', l2', y1, F', y3, y4, y5, y6, y7⟩ := u3
  · have wf : ¬ R1 129 21 = 0 := by
      obtain ⟨_, _, x, _⟩ := u3
      exact x.2.2
    refine ⟨R1, fun e he C0 => ?_, u2, Or.inl u3⟩
    obtain ⟨e', rfl⟩ : ∃ e', e = e' + 7 := ⟨e - 7, by omega⟩
    rw [n216, h216_0, u1 (e' + 6) (by omega) C0, cK9, pRv]
    exact r216n4 (e' + 5) wf _ C0
  · obtain ⟨R5, x1, x2, x3⟩ := L216 q hl q (by omega) N s h a p' i' o c' w' C' R1 l2' (by omega) F' (fun j z1 z2 => by have := y6 j z1 z2; omega) (TR_c ht y3) y7
    refine ⟨R5, fun e he C0 => ?_, fFR_t u2 x2, ?_⟩
    · obtain ⟨e', rfl⟩ : ∃ e', e = e' + 7 := ⟨e - 7, by omega⟩
      rw [n216, h216_0, u1 (e' + 6) (by omega) C0, cK9, pRv]
      exact x1 (e' + 6) (by omega) _ C0
    · obtain x3 | x3 := x3
      · exact Or.inl (OUF_t y1 y3 x3)
      · exact Or.inr (OUS_t y1 y3 y4 (by omega) x3)
theorem L215 (Q : Nat) (hcl : ∀ q : Nat, q < Q → CLM xs n d 216 6 6 8 q) : ∀ q : Nat, q ≤ Q → ∀ (N : Int) (s h a p i o c w : Nat) (C R : Sto) (l2 : Int), 700 ≤ i + q → FS N s (h + 1) a p i o c w C R → PR 5 a p C → TR 5 a C → TEn 6 a p C → ∃ R' : Sto, (∀ e : Nat, 8 + 8 * (8 - o) + (64 - c) ≤ e → ∀ (o1 : Option Vv) (C0 : Sto), Rn e 215 4 [some (2, 129), o1] [] (Sg xs n (mix C0 R)) = some ((9, 0), Sg xs n (mix C0 R'))) ∧ fFR s R R' ∧ (OUF xs n d s a i 0 l2 C R' ∨ OUS xs n d 5 N s (h + 1) a o c i 0 0 l2 C R') := by
  intro q
  induction q with
  | zero =>
    intro _ N s h a p i o c w C R l2 hi F
    have := (FS_i F).1
    omega
  | succ q ih =>
    intro hQ N s h a p i o c w C R l2 hi F hp ht te
    obtain ⟨i1, tp⟩ := FS_i F
    have w0 := FS_w F
    obtain ⟨_, _, _, tpd, tpe, _, _⟩ := tp
    by_cases k : tkRk (C 3 4) = 5
    · have rk := tpd.2.2.2.1.mp k
      have sg := tQ_s F.1.2.2.2 rk.1 (by omega)
      have hr : kf 3 (C 3 4) = 5 := by rw [tpe.2.2.1 (by omega)]; exact k
      have h2 := tpe.2.1.mpr (by omega)
      have ent : ∀ (e : Nat) (o1 : Option Vv) (C0 : Sto), Rn (e + 7) 215 4 [some (2, 129), o1] [] (Sg xs n (mix C0 R)) = Rn (e + 7) 215 22 [some (2, 129), none] [] (Sg xs n (mix C0 R)) := by
        intro e o1 C0
        rw [h215_4, r195 (e + 6) C0, cK0, pR0, h215_10]
        by_cases z : R 129 20 = 43
        · rw [bB_t ⟨w0.1, rk.1, z⟩, if_pos (by decide)]
        · rw [bB_f (fun y => z y.2.2), if_neg (fun y => y rfl), r195 (e + 6) C0, cK0, pR0, h215_19, bB_t ⟨w0.1, rk.1, by omega⟩, if_neg (by decide)]
      obtain ⟨hc, out⟩ | ⟨hc, R2, R3, t2, u1, fr, u3⟩ := BIN d (l2 := l2) (v := (R 129 20)) (hcl q (by omega)) F (by omega) hr h2 (by omega) (by rw [if_neg (by decide)]; exact hp) ht sg.1 sg.2 (by omega) (by omega) (Or.inr ⟨by omega, by omega⟩)
      · have wf : ¬ wrgS R 2 129 21 = 0 := by
          unfold wrgS
          rw [up_ni (by decide), up_at]
          decide
        refine ⟨wrgS R 2, fun e he o1 C0 => ?_, fFR_wr, Or.inl out⟩
        obtain ⟨e', rfl⟩ : ∃ e', e = e' + 7 := ⟨e - 7, by omega⟩
        rw [ent e' o1 C0, h215_22]
        simp only [mr129]
        rw [r211f (e' + 5) w0.1 (by omega) C0, cK9, pRv, h215_31, r196n (e' + 6) wf C0, cK9, pRv, h215_35, r216n (e' + 5) wf C0, cK9, pRv, h215_39, r210n (e' + 5) wf C0, cK9, pRv, h215_45]
        exact r215n4 (e' + 6) wf _ C0
      · have r1f : up R 129 26 ((c : Int) + 1) 129 21 = 0 := by rw [up_ni (by decide)]; exact w0.1
        obtain u3 | ⟨C', p', i', c', w', l2', y1, y2, y3, y4, y5, F5, y7, y8, y9, y10, y11, _, _⟩ := u3
        · have wf : ¬ R3 129 21 = 0 := by
            obtain ⟨_, _, x, _⟩ := u3
            exact x.2.2
          refine ⟨R3, fun e he o1 C0 => ?_, fr, Or.inl u3⟩
          obtain ⟨e', rfl⟩ : ∃ e', e = e' + 7 := ⟨e - 7, by omega⟩
          rw [ent e' o1 C0, h215_22]
          simp only [mr129]
          rw [r211 (e' + 5) w0.1 w0.2.2.2.2.2.2.2.1 (by omega) (by omega) C0, cK9, pRv, h215_31, r196 (e' + 6) r1f (t2 (e' + 3)) C0, cK9, pRv, h215_35, u1 (e' + 7) (by omega) C0, cK9, pRv, h215_39, r210n (e' + 5) wf C0, cK9, pRv, h215_45]
          exact r215n4 (e' + 6) wf _ C0
        · obtain ⟨R5, x1, x2, x3⟩ := ih (by omega) N s h a (p' + 1) i' o c' w' C' _ l2' (by omega) F5 y10 (TR_c ht y7) y11
          refine ⟨R5, fun e he o1 C0 => ?_, fFR_t fr (fFR_t (fFR_pt (by omega)) x2), ?_⟩
          · obtain ⟨e', rfl⟩ : ∃ e', e = e' + 7 := ⟨e - 7, by omega⟩
            rw [ent e' o1 C0, h215_22]
            simp only [mr129]
            rw [r211 (e' + 5) w0.1 w0.2.2.2.2.2.2.2.1 (by omega) (by omega) C0, cK9, pRv, h215_31, r196 (e' + 6) r1f (t2 (e' + 3)) C0, cK9, pRv, h215_35, u1 (e' + 7) (by omega) C0, cK9, pRv, h215_39, r210 (e' + 5) y2 y3 (by omega) (by omega) C0, cK9, pRv, h215_45]
            exact x1 (e' + 7) (by omega) _ C0
          · obtain x3 | x3 := x3
            · exact Or.inl (OUF_t y1 y7 x3)
            · exact Or.inr (OUS_t y1 y7 y8 (by omega) x3)
    · have z1 : ¬ (R 129 21 = 0 ∧ R 129 19 = 3 ∧ R 129 20 = 43) := fun z => k (tpd.2.2.2.1.mpr ⟨z.2.1, by omega⟩)
      have z2 : ¬ (R 129 21 = 0 ∧ R 129 19 = 3 ∧ R 129 20 = 45) := fun z => k (tpd.2.2.2.1.mpr ⟨z.2.1, by omega⟩)
      refine ⟨R, fun e he o1 C0 => ?_, fFR_r, Or.inr ⟨C, p, i, c, w, l2, fun R0 => rfl, F, fFC_r, by omega, by omega, hp, ?_⟩⟩
      · obtain ⟨e', rfl⟩ : ∃ e', e = e' + 7 := ⟨e - 7, by omega⟩
        rw [h215_4, r195 (e' + 6) C0, cK0, pR0, h215_10, bB_f z1, if_neg (fun y => y rfl), r195 (e' + 6) C0, cK0, pR0, h215_19, bB_f z2, if_pos rfl]
      · obtain z | z := te
        · exact Or.inl (by omega)
        · exact Or.inr z
theorem P215 (q : Nat) (h1 : CLM xs n d 216 6 6 8 q) (hl : ∀ q' : Nat, q' < q → CLM xs n d 216 6 6 8 q') : CLM xs n d 215 5 5 9 q := by
  intro N s h a i o c w C R l2 hi F ht ll
  obtain ⟨R1, u1, u2, u3⟩ := h1 N s h a i o c w C R l2 hi F (TR_up ht (by omega)) (by omega)
  obtain u3 | ⟨C', p', i', c', w', l2', y1, F', y3, y4, y5, y6, y7⟩ := u3
  · have wf : ¬ R1 129 21 = 0 := by
      obtain ⟨_, _, x, _⟩ := u3
      exact x.2.2
    refine ⟨R1, fun e he C0 => ?_, u2, Or.inl u3⟩
    obtain ⟨e', rfl⟩ : ∃ e', e = e' + 7 := ⟨e - 7, by omega⟩
    rw [n215, h215_0, u1 (e' + 6) (by omega) C0, cK9, pRv]
    exact r215n4 (e' + 5) wf _ C0
  · obtain ⟨R5, x1, x2, x3⟩ := L215 q hl q (by omega) N s h a p' i' o c' w' C' R1 l2' (by omega) F' (fun j z1 z2 => by have := y6 j z1 z2; omega) (TR_c ht y3) y7
    refine ⟨R5, fun e he C0 => ?_, fFR_t u2 x2, ?_⟩
    · obtain ⟨e', rfl⟩ : ∃ e', e = e' + 7 := ⟨e - 7, by omega⟩
      rw [n215, h215_0, u1 (e' + 6) (by omega) C0, cK9, pRv]
      exact x1 (e' + 6) (by omega) _ C0
    · obtain x3 | x3 := x3
      · exact Or.inl (OUF_t y1 y3 x3)
      · exact Or.inr (OUS_t y1 y3 y4 (by omega) x3)
theorem L213 (Q : Nat) (hcl : ∀ q : Nat, q < Q → CLM xs n d 214 3 4 10 q) : ∀ q : Nat, q ≤ Q → ∀ (N : Int) (s h a p i o c w : Nat) (C R : Sto) (l2 : Int), 700 ≤ i + q → FS N s (h + 1) a p i o c w C R → PR 2 a p C → TR 2 a C → TEn 3 a p C → ∃ R' : Sto, (∀ e : Nat, 10 + 8 * (8 - o) + (64 - c) ≤ e → ∀ (C0 : Sto), Rn e 213 4 [some (2, 129)] [] (Sg xs n (mix C0 R)) = some ((9, 0), Sg xs n (mix C0 R'))) ∧ fFR s R R' ∧ (OUF xs n d s a i 0 l2 C R' ∨ OUS xs n d 2 N s (h + 1) a o c i 0 0 l2 C R') := by
  intro q
  induction q with
  | zero =>
    intro _ N s h a p i o c w C R l2 hi F
    have := (FS_i F).1
    omega
  | succ q ih =>
    intro hQ N s h a p i o c w C R l2 hi F hp ht te
    obtain ⟨i1, tp⟩ := FS_i F
    have w0 := FS_w F
    obtain ⟨_, _, _, tpd, tpe, _, _⟩ := tp
    by_cases k : tkRk (C 3 4) = 2
    · have rk := tpd.2.1.mp k
      have kk := tpe.2.2.2.2 k
      have sg : sgP (C 3 4) 261 ∧ ¬ (261 : Int) = 260 := ⟨by rw [kk]; unfold sgP; omega, by decide⟩
      have hr : kf 3 (C 3 4) = 2 := by rw [tpe.2.2.1 (by omega)]; exact k
      have h2 := tpe.2.1.mpr (by omega)
      have ent : ∀ (e : Nat) (C0 : Sto), Rn (e + 7) 213 4 [some (2, 129)] [] (Sg xs n (mix C0 R)) = cK (den (e + 7) 211 [(2, 129)] (Sg xs n (mix C0 R))) (fun v s1 => Rn (e + 7) 213 17 [some (2, 129)] (pushR v []) s1) := by
        intro e C0
        rw [h213_4, r194 (e + 6) C0, cK0, pR0, h213_10, bB_t ⟨w0.1, rk.1, rk.2⟩, if_neg (by decide)]
      obtain ⟨hc, out⟩ | ⟨hc, R2, R3, t2, u1, fr, u3⟩ := BIN d (l2 := l2) (v := 261) (hcl q (by omega)) F (by omega) hr h2 (by omega) (by rw [if_neg (by decide)]; exact hp) ht sg.1 sg.2 (by omega) (by omega) (Or.inl ⟨by omega, by omega⟩)
      · have wf : ¬ wrgS R 2 129 21 = 0 := by
          unfold wrgS
          rw [up_ni (by decide), up_at]
          decide
        refine ⟨wrgS R 2, fun e he C0 => ?_, fFR_wr, Or.inl out⟩
        obtain ⟨e', rfl⟩ : ∃ e', e = e' + 7 := ⟨e - 7, by omega⟩
        rw [ent e' C0, r211f (e' + 5) w0.1 (by omega) C0, cK9, pRv, h213_17, r196n (e' + 6) wf C0, cK9, pRv, h213_21, r214n (e' + 3) wf C0, cK9, pRv, h213_25, r210n (e' + 5) wf C0, cK9, pRv, h213_33]
        exact r213n4 (e' + 6) wf C0
      · have r1f : up R 129 26 ((c : Int) + 1) 129 21 = 0 := by rw [up_ni (by decide)]; exact w0.1
        obtain u3 | ⟨C', p', i', c', w', l2', y1, y2, y3, y4, y5, F5, y7, y8, y9, y10, y11, _, _⟩ := u3
        · have wf : ¬ R3 129 21 = 0 := by
            obtain ⟨_, _, x, _⟩ := u3
            exact x.2.2
          refine ⟨R3, fun e he C0 => ?_, fr, Or.inl u3⟩
          obtain ⟨e', rfl⟩ : ∃ e', e = e' + 7 := ⟨e - 7, by omega⟩
          rw [ent e' C0, r211 (e' + 5) w0.1 w0.2.2.2.2.2.2.2.1 (by omega) (by omega) C0, cK9, pRv, h213_17, r196 (e' + 6) r1f (t2 (e' + 3)) C0, cK9, pRv, h213_21, u1 (e' + 7) (by omega) C0, cK9, pRv, h213_25, r210n (e' + 5) wf C0, cK9, pRv, h213_33]
          exact r213n4 (e' + 6) wf C0
        · obtain ⟨R5, x1, x2, x3⟩ := ih (by omega) N s h a (p' + 1) i' o c' w' C' _ l2' (by omega) F5 y10 (TR_c ht y7) y11
          refine ⟨R5, fun e he C0 => ?_, fFR_t fr (fFR_t (fFR_pt (by omega)) x2), ?_⟩
          · obtain ⟨e', rfl⟩ : ∃ e', e = e' + 7 := ⟨e - 7, by omega⟩
            rw [ent e' C0, r211 (e' + 5) w0.1 w0.2.2.2.2.2.2.2.1 (by omega) (by omega) C0, cK9, pRv, h213_17, r196 (e' + 6) r1f (t2 (e' + 3)) C0, cK9, pRv, h213_21, u1 (e' + 7) (by omega) C0, cK9, pRv, h213_25, r210 (e' + 5) y2 y3 (by omega) (by omega) C0, cK9, pRv, h213_33]
            exact x1 (e' + 7) (by omega) C0
          · obtain x3 | x3 := x3
            · exact Or.inl (OUF_t y1 y7 x3)
            · exact Or.inr (OUS_t y1 y7 y8 (by omega) x3)
    · have z1 : ¬ (R 129 21 = 0 ∧ R 129 19 = 0 ∧ R 129 20 = 12) := fun z => k (tpd.2.1.mpr z.2)
      refine ⟨R, fun e he C0 => ?_, fFR_r, Or.inr ⟨C, p, i, c, w, l2, fun R0 => rfl, F, fFC_r, by omega, by omega, hp, ?_⟩⟩
      · obtain ⟨e', rfl⟩ : ∃ e', e = e' + 7 := ⟨e - 7, by omega⟩
        rw [h213_4, r194 (e' + 6) C0, cK0, pR0, h213_10, bB_f z1, if_pos rfl]
      · obtain z | z := te
        · exact Or.inl (by omega)
        · exact Or.inr z
theorem P213 (q : Nat) (h1 : CLM xs n d 214 3 4 10 q) (hl : ∀ q' : Nat, q' < q → CLM xs n d 214 3 4 10 q') : CLM xs n d 213 2 2 11 q := by
  intro N s h a i o c w C R l2 hi F ht ll
  obtain ⟨R1, u1, u2, u3⟩ := h1 N s h a i o c w C R l2 hi F (TR_up ht (by omega)) (by omega)
  obtain u3 | ⟨C', p', i', c', w', l2', y1, F', y3, y4, y5, y6, y7⟩ := u3
  · have wf : ¬ R1 129 21 = 0 := by
      obtain ⟨_, _, x, _⟩ := u3
      exact x.2.2
    refine ⟨R1, fun e he C0 => ?_, u2, Or.inl u3⟩
    obtain ⟨e', rfl⟩ : ∃ e', e = e' + 7 := ⟨e - 7, by omega⟩
    rw [n213, h213_0, u1 (e' + 6) (by omega) C0, cK9, pRv]
    exact r213n4 (e' + 5) wf C0
  · obtain ⟨R5, x1, x2, x3⟩ := L213 q hl q (by omega) N s h a p' i' o c' w' C' R1 l2' (by omega) F' (fun j z1 z2 => by have := y6 j z1 z2; omega) (TR_c ht y3) y7
    refine ⟨R5, fun e he C0 => ?_, fFR_t u2 x2, ?_⟩
    · obtain ⟨e', rfl⟩ : ∃ e', e = e' + 7 := ⟨e - 7, by omega⟩
      rw [n213, h213_0, u1 (e' + 6) (by omega) C0, cK9, pRv]
      exact x1 (e' + 6) (by omega) C0
    · obtain x3 | x3 := x3
      · exact Or.inl (OUF_t y1 y3 x3)
      · exact Or.inr (OUS_t y1 y3 y4 (by omega) x3)
theorem L212 (Q : Nat) (hcl : ∀ q : Nat, q < Q → CLM xs n d 213 2 2 11 q) : ∀ q : Nat, q ≤ Q → ∀ (N : Int) (s h a p i o c w : Nat) (C R : Sto) (l2 : Int), 700 ≤ i + q → FS N s (h + 1) a p i o c w C R → PR 1 a p C → TR 1 a C → TEn 2 a p C → ∃ R' : Sto, (∀ e : Nat, 11 + 8 * (8 - o) + (64 - c) ≤ e → ∀ (C0 : Sto), Rn e 212 4 [some (2, 129)] [] (Sg xs n (mix C0 R)) = some ((9, 0), Sg xs n (mix C0 R'))) ∧ fFR s R R' ∧ (OUF xs n d s a i 0 l2 C R' ∨ OUS xs n d 1 N s (h + 1) a o c i 0 0 l2 C R') := by
  intro q
  induction q with
  | zero =>
    intro _ N s h a p i o c w C R l2 hi F
    have := (FS_i F).1
    omega
  | succ q ih =>
    intro hQ N s h a p i o c w C R l2 hi F hp ht te
    obtain ⟨i1, tp⟩ := FS_i F
    have w0 := FS_w F
    obtain ⟨_, _, _, tpd, tpe, _, _⟩ := tp
    by_cases k : tkRk (C 3 4) = 1
    · have rk := tpd.1.mp k
      have kk := tpe.2.2.2.1 k
      have sg : sgP (C 3 4) 262 ∧ ¬ (262 : Int) = 260 := ⟨by rw [kk]; unfold sgP; omega, by decide⟩
      have hr : kf 3 (C 3 4) = 1 := by rw [tpe.2.2.1 (by omega)]; exact k
      have h2 := tpe.2.1.mpr (by omega)
      have ent : ∀ (e : Nat) (C0 : Sto), Rn (e + 7) 212 4 [some (2, 129)] [] (Sg xs n (mix C0 R)) = cK (den (e + 7) 211 [(2, 129)] (Sg xs n (mix C0 R))) (fun v s1 => Rn (e + 7) 212 17 [some (2, 129)] (pushR v []) s1) := by
        intro e C0
        rw [h212_4, r194 (e + 6) C0, cK0, pR0, h212_10, bB_t ⟨w0.1, rk.1, rk.2⟩, if_neg (by decide)]
      obtain ⟨hc, out⟩ | ⟨hc, R2, R3, t2, u1, fr, u3⟩ := BIN d (l2 := l2) (v := 262) (hcl q (by omega)) F (by omega) hr h2 (by omega) (by rw [if_neg (by decide)]; exact hp) ht sg.1 sg.2 (by omega) (by omega) (Or.inl ⟨by omega, by omega⟩)
      · have wf : ¬ wrgS R 2 129 21 = 0 := by
          unfold wrgS
          rw [up_ni (by decide), up_at]
          decide
        refine ⟨wrgS R 2, fun e he C0 => ?_, fFR_wr, Or.inl out⟩
        obtain ⟨e', rfl⟩ : ∃ e', e = e' + 7 := ⟨e - 7, by omega⟩
        rw [ent e' C0, r211f (e' + 5) w0.1 (by omega) C0, cK9, pRv, h212_17, r196n (e' + 6) wf C0, cK9, pRv, h212_21, r213n (e' + 2) wf C0, cK9, pRv, h212_25, r210n (e' + 5) wf C0, cK9, pRv, h212_33]
        exact r212n4 (e' + 6) wf C0
      · have r1f : up R 129 26 ((c : Int) + 1) 129 21 = 0 := by rw [up_ni (by decide)]; exact w0.1
        obtain u3 | ⟨C', p', i', c', w', l2', y1, y2, y3, y4, y5, F5, y7, y8, y9, y10, y11, _, _⟩ := u3
        · have wf : ¬ R3 129 21 = 0 := by
            obtain ⟨_, _, x, _⟩ := u3
            exact x.2.2
          refine ⟨R3, fun e he C0 => ?_, fr, Or.inl u3⟩
          obtain ⟨e', rfl⟩ : ∃ e', e = e' + 7 := ⟨e - 7, by omega⟩
          rw [ent e' C0, r211 (e' + 5) w0.1 w0.2.2.2.2.2.2.2.1 (by omega) (by omega) C0, cK9, pRv, h212_17, r196 (e' + 6) r1f (t2 (e' + 3)) C0, cK9, pRv, h212_21, u1 (e' + 7) (by omega) C0, cK9, pRv, h212_25, r210n (e' + 5) wf C0, cK9, pRv, h212_33]
          exact r212n4 (e' + 6) wf C0
        · obtain ⟨R5, x1, x2, x3⟩ := ih (by omega) N s h a (p' + 1) i' o c' w' C' _ l2' (by omega) F5 y10 (TR_c ht y7) y11
          refine ⟨R5, fun e he C0 => ?_, fFR_t fr (fFR_t (fFR_pt (by omega)) x2), ?_⟩
          · obtain ⟨e', rfl⟩ : ∃ e', e = e' + 7 := ⟨e - 7, by omega⟩
            rw [ent e' C0, r211 (e' + 5) w0.1 w0.2.2.2.2.2.2.2.1 (by omega) (by omega) C0, cK9, pRv, h212_17, r196 (e' + 6) r1f (t2 (e' + 3)) C0, cK9, pRv, h212_21, u1 (e' + 7) (by omega) C0, cK9, pRv, h212_25, r210 (e' + 5) y2 y3 (by omega) (by omega) C0, cK9, pRv, h212_33]
            exact x1 (e' + 7) (by omega) C0
          · obtain x3 | x3 := x3
            · exact Or.inl (OUF_t y1 y7 x3)
            · exact Or.inr (OUS_t y1 y7 y8 (by omega) x3)
    · have z1 : ¬ (R 129 21 = 0 ∧ R 129 19 = 0 ∧ R 129 20 = 11) := fun z => k (tpd.1.mpr z.2)
      refine ⟨R, fun e he C0 => ?_, fFR_r, Or.inr ⟨C, p, i, c, w, l2, fun R0 => rfl, F, fFC_r, by omega, by omega, hp, ?_⟩⟩
      · obtain ⟨e', rfl⟩ : ∃ e', e = e' + 7 := ⟨e - 7, by omega⟩
        rw [h212_4, r194 (e' + 6) C0, cK0, pR0, h212_10, bB_f z1, if_pos rfl]
      · obtain z | z := te
        · exact Or.inl (by omega)
        · exact Or.inr z
theorem P212 (q : Nat) (h1 : CLM xs n d 213 2 2 11 q) (hl : ∀ q' : Nat, q' < q → CLM xs n d 213 2 2 11 q') : CLM xs n d 212 1 1 12 q := by
  intro N s h a i o c w C R l2 hi F ht ll
  obtain ⟨R1, u1, u2, u3⟩ := h1 N s h a i o c w C R l2 hi F (TR_up ht (by omega)) (by omega)
  obtain u3 | ⟨C', p', i', c', w', l2', y1, F', y3, y4, y5, y6, y7⟩ := u3
  · have wf : ¬ R1 129 21 = 0 := by
      obtain ⟨_, _, x, _⟩ := u3
      exact x.2.2
    refine ⟨R1, fun e he C0 => ?_, u2, Or.inl u3⟩
    obtain ⟨e', rfl⟩ : ∃ e', e = e' + 7 := ⟨e - 7, by omega⟩
    rw [n212, h212_0, u1 (e' + 6) (by omega) C0, cK9, pRv]
    exact r212n4 (e' + 5) wf C0
  · obtain ⟨R5, x1, x2, x3⟩ := L212 q hl q (by omega) N s h a p' i' o c' w' C' R1 l2' (by omega) F' (fun j z1 z2 => by have := y6 j z1 z2; omega) (TR_c ht y3) y7
    refine ⟨R5, fun e he C0 => ?_, fFR_t u2 x2, ?_⟩
    · obtain ⟨e', rfl⟩ : ∃ e', e = e' + 7 := ⟨e - 7, by omega⟩
      rw [n212, h212_0, u1 (e' + 6) (by omega) C0, cK9, pRv]
      exact x1 (e' + 6) (by omega) C0
    · obtain x3 | x3 := x3
      · exact Or.inl (OUF_t y1 y3 x3)
      · exact Or.inr (OUS_t y1 y3 y4 (by omega) x3)
end S99o
