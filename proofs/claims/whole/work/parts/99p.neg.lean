/-! Text: negations and comparisons, operands and groups; formulas as a whole -/
section S99p
variable {xs : Int → Int} {n : Int × Int} {d : Nat}
theorem wr_f {R : Sto} {k : Int} (hk : ¬ k = 0) : ¬ wrgS R k 129 21 = 0 := by
  unfold wrgS
  rw [up_ni (by decide), up_at]
  exact hk
theorem OUF_w {s a i : Nat} {l1 l2 : Int} {C R' : Sto} (u : OUF xs n d s a i l1 l2 C R') : ¬ R' 129 21 = 0 := by
  obtain ⟨_, _, x, _⟩ := u
  exact x.2.2
theorem PR_w {r r' : Int} {a p : Nat} {C : Sto} (hp : PR r a p C) (q : r' ≤ r) : PR r' a p C := fun j z1 z2 => Int.le_trans q (hp j z1 z2)
theorem tk_pos {k kc : Int} (e : tPe kc) (q : tkRk kc = k) (h : 0 < k) : kf 3 kc = k ∧ kf 2 kc = 3 := by
  have z : 0 < tkRk kc := by rw [q]; exact h
  exact ⟨by rw [e.2.2.1 z]; exact q, e.2.1.mpr z⟩
theorem TEn_3 {a p : Nat} {C : Sto} (e : tPe (C 3 4)) (h : TEn 5 a p C) (k : ¬ tkRk (C 3 4) = 4) : TEn 3 a p C := by
  obtain y | y := h
  · have := e.1.1
    exact Or.inl (by omega)
  · exact absurd y.1 k
theorem PR_s {r : Int} {a p : Nat} {C : Sto} (h0 : r ≤ kf 3 (C 25 (a : Int))) (h : PR r (a + 1) p C) : PR r a (p + 1) C := by
  intro j z1 z2
  by_cases z : j = a
  · rw [z]
    exact h0
  · exact h j (by omega) (by omega)
theorem TEn_s {r : Int} {a p : Nat} {C : Sto} (h : TEn r (a + 1) p C) : TEn r a (p + 1) C := by
  obtain z | ⟨z1, j, z2, z3, z4, z5⟩ := h
  · exact Or.inl z
  · exact Or.inr ⟨z1, j, by omega, by omega, z4, fun j' y1 y2 => z5 j' y1 (by omega)⟩
theorem P214 (q : Nat) (h1 : CLM xs n d 215 5 5 9 q) (hl : ∀ q' : Nat, q' < q → CLM xs n d 214 3 4 10 q') : CLM xs n d 214 3 4 10 q := by
  intro N s h a i o c w C R l2 hi F ht ll
  obtain ⟨i1, tp⟩ := FS_i F
  have w0 := FS_w F
  have tpa := tp.1
  clear tp
  have l21 : l2 = 1 := by omega
  by_cases k : C 3 4 = -22
  · have rk := tpa.2.2.2.mp k
    have ent : ∀ (e : Nat) (C0 : Sto), den (e + 8) 214 [(2, 129)] (Sg xs n (mix C0 R)) = cK (den (e + 7) 211 [(2, 129)] (Sg xs n (mix C0 R))) (fun v s1 => Rn (e + 7) 214 13 [some (2, 129), none] (pushR v []) s1) := by
      intro e C0
      rw [n214, h214_0, r194 (e + 6) C0, cK0, pR0, h214_6, bB_t ⟨w0.1, rk.1, rk.2⟩, if_neg (by decide)]
    have pre : C 3 4 = -33 ∨ (C 3 4 = -22 ∧ ¬ l2 = 0) := Or.inr ⟨k, by omega⟩
    by_cases hc : c < 64
    · have e5 := e83n (xs := xs) (n := n) d F k hc
      have F2 := FS_push F hc (-22)
      have pf : fFC s a C (up (up (up C 19 0 ((c : Int) + 1)) 25 (a : Int) (-22)) 2 5 ((a : Int) + 1)) := fFC_push
      have p25 : (up (up (up C 19 0 ((c : Int) + 1)) 25 (a : Int) (-22)) 2 5 ((a : Int) + 1)) 25 (a : Int) = -22 := by rw [up_ne (by decide), up_at]
      have p3 : (up (up (up C 19 0 ((c : Int) + 1)) 25 (a : Int) (-22)) 2 5 ((a : Int) + 1)) 3 4 = C 3 4 := by rw [up_ne (by decide), up_ne (by decide), up_ne (by decide)]
      have F2t := FS_tok (xs := xs) (n := n) F2 (by rw [p3, k]; decide)
      generalize up (up (up C 19 0 ((c : Int) + 1)) 25 (a : Int) (-22)) 2 5 ((a : Int) + 1) = C2 at e5 F2 pf p25 F2t
      obtain ⟨C3, R2, t1, t2, F3, t4, t5, t6⟩ := F2t
      have ln : ∀ R0 : Sto, lp xs n d 1 l2 i C R0 = lp xs n d 1 1 ((i + 1 : Nat) : Int) C3 R0 := fun R0 => (lp_ahead d F pre R0 e5).trans (lp_161 d i1 R0 t1)
      have q25 : C3 25 (a : Int) = -22 := by rw [t6, p25]
      have tr3 : TR 4 (a + 1) C3 := Or.inr (by rw [show a + 1 - 1 = a by omega, q25]; exact ⟨rfl, by decide⟩)
      have q1 : ∃ q', q = q' + 1 := ⟨q - 1, by omega⟩
      obtain ⟨q', rfl⟩ := q1
      obtain ⟨R3, u1, u2, u3⟩ := hl q' (by omega) N s h (a + 1) (i + 1) o (c + 1) w C3 R2 1 (by omega) F3 tr3 (Or.inl ⟨rfl, by decide⟩)
      have fr : fFR s R R3 := fFR_t (fFR_t fFR_26 t5) u2
      have fc : fFC s a C C3 := fFC_t pf (t4 a)
      have r1f : up R 129 26 ((c : Int) + 1) 129 21 = 0 := by rw [up_ni (by decide)]; exact w0.1
      obtain ⟨C4, v1, v2, v3, v4⟩ | ⟨C4, p', i', c', w', l2', v1, F4, v3, v4, v5, v6, v7⟩ := u3
      · refine ⟨R3, fun e he C0 => ?_, fr, Or.inl ⟨C4, fun R0 => (ln R0).trans (v1 R0), v2, fFC_t fc (fFC_m v3 (by omega)), v4⟩⟩
        obtain ⟨e', rfl⟩ : ∃ e', e = e' + 8 := ⟨e - 8, by omega⟩
        rw [ent e' C0, r211 (e' + 5) w0.1 w0.2.2.2.2.2.2.2.1 (by omega) (by omega) C0, cK9, pRv, h214_13, r196 (e' + 6) r1f (t2 (e' + 3)) C0, cK9, pRv, h214_17, u1 (e' + 7) (by omega) C0, cK9, pRv, h214_21, r210n (e' + 5) v2.2.2 C0, cK9, pRv, h214_29]
      · have w4 := FS_w F4
        have x25 : C4 25 (a : Int) = -22 := (v3.2.2.2.2.2.1 a (by omega)).trans q25
        have hst : stH 2 260 (h + 1) = some (h + 1) := by
          unfold stH
          rw [if_pos rfl, if_pos rfl, if_pos (by omega)]
        have F5 := FS_put F4 w0.2.2.2.1 (v := 260) (by rw [x25]; unfold sgP; omega) hst
        refine ⟨_, fun e he C0 => ?_, fFR_t fr (fFR_pt (s := s) (w := ((w' + p' : Nat) : Int)) (its := 2) (v := 260) (by omega)), Or.inr ⟨C4, p' + 1, i', c', w', l2', fun R0 => (ln R0).trans (v1 R0), F5, fFC_t fc (fFC_m v3 (by omega)), by omega, by omega, ?_, ?_⟩⟩
        · obtain ⟨e', rfl⟩ : ∃ e', e = e' + 8 := ⟨e - 8, by omega⟩
          rw [ent e' C0, r211 (e' + 5) w0.1 w0.2.2.2.2.2.2.2.1 (by omega) (by omega) C0, cK9, pRv, h214_13, r196 (e' + 6) r1f (t2 (e' + 3)) C0, cK9, pRv, h214_17, u1 (e' + 7) (by omega) C0, cK9, pRv, h214_21, r210 (e' + 5) w4.1 w4.2.1 (by omega) (by omega) C0, cK9, pRv, h214_29]
        · exact PR_s (by rw [x25]; decide) v6
        · exact TEn_s v7
    · have e5 := e83nf (xs := xs) (n := n) d F k hc
      have wf := wr_f (R := R) (k := 2) (by decide)
      refine ⟨wrgS R 2, fun e he C0 => ?_, fFR_wr, Or.inl ⟨flS C 2, fun R0 => lp_ahead_f d F pre R0 e5, FT_f F (by decide), fFC_fl, ok20_fl (FS_ok20 F)⟩⟩
      obtain ⟨e', rfl⟩ : ∃ e', e = e' + 8 := ⟨e - 8, by omega⟩
      rw [ent e' C0, r211f (e' + 5) w0.1 (by omega) C0, cK9, pRv, h214_13, r196n (e' + 6) wf C0, cK9, pRv, h214_17, r214n (e' + 3) wf C0, cK9, pRv, h214_21, r210n (e' + 5) wf C0, cK9, pRv, h214_29]
  · have z1 : ¬ (R 129 21 = 0 ∧ R 129 19 = 0 ∧ R 129 20 = 13) := fun z => k (tpa.2.2.2.mpr z.2)
    obtain ⟨R1, u1, u2, u3⟩ := h1 N s h a i o c w C R l2 hi F (TR_up ht (by omega)) (Or.inr ⟨by decide, Or.inr k⟩)
    have ent : ∀ (e : Nat) (C0 : Sto), 9 + 8 * (8 - o) + (64 - c) ≤ e + 7 → den (e + 8) 214 [(2, 129)] (Sg xs n (mix C0 R)) = Rn (e + 7) 214 34 [some (2, 129), none] [] (Sg xs n (mix C0 R1)) := by
      intro e C0 he
      rw [n214, h214_0, r194 (e + 6) C0, cK0, pR0, h214_6, bB_f z1, if_pos rfl, u1 (e + 7) he C0, cK9, pRv]
    obtain u3 | ⟨C1, p1, i', c1, w1, l2', v1, F1, v3, v4, v5, v6, v7⟩ := u3
    · have wf := OUF_w u3
      refine ⟨R1, fun e he C0 => ?_, u2, Or.inl u3⟩
      obtain ⟨e', rfl⟩ : ∃ e', e = e' + 8 := ⟨e - 8, by omega⟩
      rw [ent e' C0 (by omega), h214_34]
      simp only [mr129]
      rw [if_pos wf, h214_86]
    · have w1' := FS_w F1
      have tc1 := (FS_i F1).2.2.2.2.1.2.2.1
      have tpe1 : tPe (C1 3 4) := (FS_i F1).2.2.2.2.2.1
      by_cases k4 : tkRk (C1 3 4) = 4
      · have rk := tc1.mp k4
        have sg := tQ_s F1.1.2.2.2 rk.1 (by have := rk.2; clear tpe1 tc1 k4; omega)
        have hk := tk_pos tpe1 k4 (by decide)
        have hr := hk.1
        have h2 := hk.2
        clear tpe1 tc1 hk
        have ent2 : ∀ (e : Nat) (C0 : Sto), 9 + 8 * (8 - o) + (64 - c) ≤ e + 7 → den (e + 8) 214 [(2, 129)] (Sg xs n (mix C0 R)) = cK (den (e + 7) 211 [(2, 129)] (Sg xs n (mix C0 R1))) (fun v s1 => Rn (e + 7) 214 96 [some (2, 129), some (0, R1 129 20)] (pushR v []) s1) := by
          intro e C0 he
          rw [ent e C0 he, h214_34]
          simp only [mr129, h214_87]
          rw [if_neg (fun z => z w1'.1), if_neg (fun z => z rk.1)]
          by_cases y1 : R1 129 20 = 60
          · rw [if_pos y1]
          · rw [if_neg y1]
            by_cases y2 : R1 129 20 = 62
            · rw [if_pos y2]
            · rw [if_neg y2]
              by_cases y3 : R1 129 20 = 61
              · rw [if_pos y3]
              · rw [if_neg y3, if_pos (by omega)]
        obtain ⟨hc, out⟩ | ⟨hc, R2, R3, t2, x1, fr, x3⟩ := BIN d (l2 := l2') (v := R1 129 20) h1 F1 (by omega) hr h2 (by decide) (by rw [if_pos rfl]; exact v6) (TR_c ht v3) sg.1 sg.2 (by decide) (by decide) (Or.inr ⟨by decide, by decide⟩)
        · have wf := wr_f (R := R1) (k := 2) (by decide)
          refine ⟨wrgS R1 2, fun e he C0 => ?_, fFR_t u2 fFR_wr, Or.inl (OUF_t v1 v3 out)⟩
          obtain ⟨e', rfl⟩ : ∃ e', e = e' + 8 := ⟨e - 8, by omega⟩
          rw [ent2 e' C0 (by omega), r211f (e' + 5) w1'.1 (by omega) C0, cK9, pRv, h214_96, r196n (e' + 6) wf C0, cK9, pRv, h214_100, r215n (e' + 4) wf C0, cK9, pRv, h214_104, r210n (e' + 5) wf C0, cK9, pRv, h214_110]
        · have r1f : up R1 129 26 ((c1 : Int) + 1) 129 21 = 0 := by rw [up_ni (by decide)]; exact w1'.1
          obtain x3 | ⟨C', p', i4, c', w', l2'', y1, y2, y3, y4, y5, F5, y7, y8, y9, y10, y11, y12, y13⟩ := x3
          · have wf := OUF_w x3
            refine ⟨R3, fun e he C0 => ?_, fFR_t u2 fr, Or.inl (OUF_t v1 v3 x3)⟩
            obtain ⟨e', rfl⟩ : ∃ e', e = e' + 8 := ⟨e - 8, by omega⟩
            rw [ent2 e' C0 (by omega), r211 (e' + 5) w1'.1 w1'.2.2.2.2.2.2.2.1 (by omega) (by omega) C0, cK9, pRv, h214_96, r196 (e' + 6) r1f (t2 (e' + 3)) C0, cK9, pRv, h214_100, x1 (e' + 7) (by omega) C0, cK9, pRv, h214_104, r210n (e' + 5) wf C0, cK9, pRv, h214_110]
          · refine ⟨_, fun e he C0 => ?_, fFR_t u2 (fFR_t fr (fFR_pt (s := s) (w := ((w' + p' : Nat) : Int)) (its := 2) (v := R1 129 20) (by omega))), Or.inr ⟨C', p' + 1, i4, c', w', l2'', fun R0 => (v1 R0).trans (y1 R0), F5, fFC_t v3 y7, by omega, by omega, PR_w y10 (by decide), ?_⟩⟩
            · obtain ⟨e', rfl⟩ : ∃ e', e = e' + 8 := ⟨e - 8, by omega⟩
              rw [ent2 e' C0 (by omega), r211 (e' + 5) w1'.1 w1'.2.2.2.2.2.2.2.1 (by omega) (by omega) C0, cK9, pRv, h214_96, r196 (e' + 6) r1f (t2 (e' + 3)) C0, cK9, pRv, h214_100, x1 (e' + 7) (by omega) C0, cK9, pRv, h214_104, r210 (e' + 5) y2 y3 (by omega) (by omega) C0, cK9, pRv, h214_110]
            · by_cases z : tkRk (C' 3 4) = 4
              · exact Or.inr ⟨z, a, Nat.le_refl a, by omega, y12, fun j' z1 z2 => y13 j' z1 (by omega)⟩
              · exact TEn_3 (FS_i F5).2.2.2.2.2.1 y11 z
      · refine ⟨R1, fun e he C0 => ?_, u2, Or.inr ⟨C1, p1, i', c1, w1, l2', v1, F1, v3, v4, v5, PR_w v6 (by decide), TEn_3 tpe1 v7 k4⟩⟩
        have nk : ¬ (R1 129 19 = 3 ∧ (R1 129 20 = 60 ∨ R1 129 20 = 61 ∨ R1 129 20 = 62 ∨ 256 ≤ R1 129 20)) := fun z => k4 (tc1.mpr z)
        clear tc1 tpe1
        obtain ⟨e', rfl⟩ : ∃ e', e = e' + 8 := ⟨e - 8, by omega⟩
        rw [ent e' C0 (by omega), h214_34]
        simp only [mr129, h214_86]
        rw [if_neg (fun z => z w1'.1)]
        by_cases y0 : R1 129 19 = 3
        · rw [if_neg (fun z => z y0), if_neg (by omega), if_neg (by omega), if_neg (by omega), if_neg (by omega)]
        · rw [if_pos y0]
end S99p
