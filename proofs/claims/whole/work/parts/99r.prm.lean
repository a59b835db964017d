/-! Text: operands; formulas as a whole -/
section S99r
variable {xs : Int → Int} {n : Int × Int} {d : Nat}
theorem P217 (q : Nat) (hl : ∀ q' : Nat, q' < q → CLM xs n d 212 1 1 12 q') : CLM xs n d 217 7 7 7 q := by
  intro N s h a i o c w C R l2 hi F ht ll
  by_cases k : C 3 4 = -33
  · exact PG q hl N s h a i o c w C R l2 hi F k
  · have i1 := (FS_i F).1
    have w0 := FS_w F
    have pre : ¬ (C 3 4 = -33 ∨ (C 3 4 = -22 ∧ ¬ l2 = 0)) := by omega
    have tpa := (FS_i F).2.1.1
    have tpb := (FS_i F).2.2.1.1
    have tpc : tPc (C 3 4) (R 129 19) (R 129 20) := (FS_i F).2.2.2.1
    have nk : ¬ (R 129 21 = 0 ∧ R 129 19 = 3 ∧ R 129 20 = 40) := fun z => k (tpa.mpr z.2)
    have ent : ∀ (e : Nat) (C0 : Sto), den (e + 7) 217 [(2, 129)] (Sg xs n (mix C0 R)) = Rn (e + 6) 217 114 [some (2, 129), none] [(0, bB (R 129 19 = 2))] (Sg xs n (mix C0 R)) := by
      intro e C0
      rw [n217, h217_0]
      simp only [mr129]
      rw [if_pos w0.1, r195 (e + 5) C0, cK0, pR0, h217_14, bB_f nk, if_pos rfl]
      simp only [mr129]
      by_cases z : R 129 19 = 2
      · rw [if_neg (fun y => y z), bB_t z]
      · rw [if_pos z, bB_f z]
    -- with a fault, up to the end
    have tail : ∀ (e : Nat) (C0 : Sto) (b kk : Int), ¬ kk = 0 → Rn (e + 6) 217 162 [some (2, 129), some (0, b)] [] (Sg xs n (mix C0 (wrgS R kk))) = some ((9, 0), Sg xs n (mix C0 (wrgS R kk))) := by
      intro e C0 b kk hk
      have wf := wr_f (R := R) hk
      have t194 : ∀ (its vv : Int), Rn (e + 6) 217 194 [some (2, 129), some (0, b)] [(0, vv), (0, its), (2, 129)] (Sg xs n (mix C0 (wrgS R kk))) = some ((9, 0), Sg xs n (mix C0 (wrgS R kk))) := by
        intro its vv
        rw [h217_194, r210n (e + 4) wf C0, cK9, pRv, h217_197, r196n (e + 5) wf C0, cK9, pRv, h217_201]
      rw [h217_162, r211n (e + 4) wf C0, cK9, pRv, h217_166]
      by_cases z : b = 0
      · rw [if_pos z, h217_176, if_pos z]
        exact t194 _ _
      · rw [if_neg z, h217_176, if_neg z]
        exact t194 _ _
    by_cases opd : C 3 4 = -36 ∨ kf 2 (C 3 4) = 2
    · -- what the reference sees
      have see : (R 129 19 = 2 ∧ C 3 4 = -36 ∧ nuE (C 3 7) (R 129 20)) ∨ (R 129 19 = 0 ∧ ¬ C 3 4 = -36 ∧ 14 ≤ R 129 20 ∧ R 129 20 ≤ 20 ∧ C 3 4 = -13 - (R 129 20 - 14)) := by
        by_cases z : C 3 4 = -36
        · have y := tpb.mp z
          exact Or.inl ⟨y, z, tQ_n F.1.2.2.2 y⟩
        · have y := tpc.1.mp (by omega)
          have x := tpc.2 y.1 y.2
          exact Or.inr ⟨y.1, z, y.2, x.2, x.1⟩
      have e84' := fun hn hc => e84 (xs := xs) (n := n) d F opd hn hc
      have e84f' := fun hn => e84f (xs := xs) (n := n) d F opd hn
      clear tpc tpb tpa
      have see2 : (C 3 4 = -36 ∧ ¬ C 3 7 ≤ 9999) ∨ ((C 3 4 = -36 → C 3 7 ≤ 9999)) := by omega
      obtain big | small := see2
      · -- a number too large
        have e5 := e84f' (Or.inl big)
        have rv : R 129 19 = 2 ∧ 9999 < R 129 20 := by
          obtain y | y := see
          · refine ⟨y.1, ?_⟩
            have := y.2.2
            unfold nuE at this
            omega
          · omega
        have wf := wr_f (R := R) (k := 2) (by decide)
        refine ⟨wrgS R 2, fun e he C0 => ?_, fFR_wr, Or.inl ⟨flS C 2, fun R0 => lp_opd_f d F pre R0 e5, FT_f F (by decide), fFC_fl, ok20_fl (FS_ok20 F)⟩⟩
        obtain ⟨e', rfl⟩ : ∃ e', e = e' + 7 := ⟨e - 7, by omega⟩
        rw [ent e' C0, bB_t rv.1, h217_114, if_neg (by decide)]
        simp only [mr129]
        rw [if_neg (fun z => z rv.2), r193 (e' + 5) w0.1 C0, cK9, pRv, h217_134]
        exact tail e' C0 1 2 (by decide)
      · -- the reference is at 162
        have at162 : ∀ (e : Nat) (C0 : Sto), den (e + 7) 217 [(2, 129)] (Sg xs n (mix C0 R)) = Rn (e + 6) 217 162 [some (2, 129), some (0, bB (R 129 19 = 2))] [] (Sg xs n (mix C0 R)) := by
          intro e C0
          rw [ent e C0, h217_114]
          simp only [mr129]
          obtain y | y := see
          · have sm := small y.2.1
            have := y.2.2
            unfold nuE at this
            rw [bB_t y.1, if_neg (by decide), if_pos (by omega), h217_137, if_pos (by decide)]
          · rw [bB_f (by omega), if_pos rfl, h217_137, if_neg (fun z => z rfl)]
            simp only [mr129]
            rw [if_neg (fun z => z y.1), if_pos (by omega)]
        by_cases hc : c < 64
        · have e5 := e84' small hc
          -- the knot
          have kn : ∃ its vv : Int, ¬ its = 2 ∧ knP (C 3 4) (if C 3 4 = -36 then C 3 7 else 0) its vv ∧ (∀ (e : Nat) (C0 R1 : Sto), R1 129 20 = R 129 20 → Rn (e + 6) 217 166 [some (2, 129), some (0, bB (R 129 19 = 2))] [] (Sg xs n (mix C0 R1)) = Rn (e + 6) 217 194 [some (2, 129), some (0, bB (R 129 19 = 2))] [(0, vv), (0, its), (2, 129)] (Sg xs n (mix C0 R1))) := by
            obtain y | y := see
            · have sm := small y.2.1
              have nu := y.2.2
              unfold nuE at nu
              refine ⟨0, R 129 20, by decide, ?_, ?_⟩
              · rw [if_pos y.2.1]
                exact Or.inl ⟨rfl, y.2.1, by omega, by omega, by omega⟩
              · intro e C0 R1 hr1
                rw [bB_t y.1, h217_166, if_neg (by decide), h217_176, if_neg (by decide)]
                simp only [mr129]
                rw [hr1]
            · refine ⟨1, R 129 20 - 14, by decide, ?_, ?_⟩
              · exact Or.inr (Or.inl ⟨rfl, by omega, by omega, by omega⟩)
              · intro e C0 R1 hr1
                rw [bB_f (by omega), h217_166, if_pos rfl, h217_176, if_pos rfl]
                simp only [mr129]
                rw [hr1, w32_idP (by omega) (by omega)]
          obtain ⟨its, vv, kn1, kn2, kn3⟩ := kn
          have F1 := FS_operand F hc kn2 kn1 (FS_kc F).2
          have pf : fFC s a C (up (up (up (up C 19 0 ((c : Int) + 1)) 20 (w : Int) (C 3 4)) 21 (w : Int) (if C 3 4 = -36 then C 3 7 else 0)) 19 6 ((w : Int) + 1)) := fFC_opd w0.2.2.2.2.2.2.1
          have p3 : (up (up (up (up C 19 0 ((c : Int) + 1)) 20 (w : Int) (C 3 4)) 21 (w : Int) (if C 3 4 = -36 then C 3 7 else 0)) 19 6 ((w : Int) + 1)) 3 4 = C 3 4 := by rw [up_ne (by decide), up_ne (by decide), up_ne (by decide), up_ne (by decide)]
          have n38 : ¬ C 3 4 = -38 := by omega
          have F1t := FS_tok (xs := xs) (n := n) F1 (by rw [p3]; exact n38)
          generalize up (up (up (up C 19 0 ((c : Int) + 1)) 20 (w : Int) (C 3 4)) 21 (w : Int) (if C 3 4 = -36 then C 3 7 else 0)) 19 6 ((w : Int) + 1) = C2 at e5 F1 pf p3 F1t
          obtain ⟨C3, R3, t1, t2, F3, t4, t5, t6⟩ := F1t
          have ln : ∀ R0 : Sto, lp xs n d 1 l2 i C R0 = lp xs n d 0 0 ((i + 1 : Nat) : Int) C3 R0 := fun R0 => (lp_opd d F pre R0 e5).trans (lp_161 d i1 R0 t1)
          refine ⟨R3, fun e he C0 => ?_, fFR_t fFR_26 (fFR_t (fFR_pt (by omega)) t5), Or.inr ⟨C3, 0, i + 1, c + 1, w + 1, 0, ln, F3, fFC_t pf (t4 a), by omega, by omega, fun j z1 z2 => by omega, TEn_7 (FS_i F3).2.2.2.2.2.1⟩⟩
          obtain ⟨e', rfl⟩ : ∃ e', e = e' + 7 := ⟨e - 7, by omega⟩
          have r1f : up R 129 26 ((c : Int) + 1) 129 21 = 0 := by rw [up_ni (by decide)]; exact w0.1
          have r1w : up R 129 26 ((c : Int) + 1) 131 13 = (w : Int) := by rw [up_ne (by decide)]; exact w0.2.1
          have r2f : ptS (up R 129 26 ((c : Int) + 1)) (w : Int) its vv 129 21 = 0 := by
            unfold ptS
            rw [up_ne (by decide), up_ne (by decide), up_ne (by decide)]
            exact r1f
          rw [at162 e' C0, h217_162, r211 (e' + 4) w0.1 w0.2.2.2.2.2.2.2.1 (by omega) (by omega) C0, cK9, pRv, kn3 e' C0 _ (by rw [up_ni (by decide)]), h217_194, r210 (e' + 4) r1f r1w (by omega) (by omega) C0, cK9, pRv, h217_197, r196 (e' + 5) r2f (t2 (e' + 2)) C0, cK9, pRv, h217_201]
        · have e5 := e84f' (Or.inr hc)
          refine ⟨wrgS R 2, fun e he C0 => ?_, fFR_wr, Or.inl ⟨flS C 2, fun R0 => lp_opd_f d F pre R0 e5, FT_f F (by decide), fFC_fl, ok20_fl (FS_ok20 F)⟩⟩
          have wf := wr_f (R := R) (k := 2) (by decide)
          obtain ⟨e', rfl⟩ : ∃ e', e = e' + 7 := ⟨e - 7, by omega⟩
          have tl := tail e' C0 (bB (R 129 19 = 2)) 2 (by decide)
          rw [h217_162, r211n (e' + 4) wf C0, cK9, pRv] at tl
          rw [at162 e' C0, h217_162, r211f (e' + 4) w0.1 (by omega) C0, cK9, pRv]
          exact tl
    · have e5 := e84x (xs := xs) (n := n) d F opd
      have n2 : ¬ R 129 19 = 2 := fun z => opd (Or.inl (tpb.mpr z))
      have nw : ¬ (R 129 19 = 0 ∧ 14 ≤ R 129 20) := fun z => opd (Or.inr (tpc.1.mpr z))
      clear tpc tpb tpa
      have wf := wr_f (R := R) (k := 1) (by decide)
      refine ⟨wrgS R 1, fun e he C0 => ?_, fFR_wr, Or.inl ⟨flS C 1, fun R0 => lp_opd_f d F pre R0 e5, FT_f F (by decide), fFC_fl, ok20_fl (FS_ok20 F)⟩⟩
      obtain ⟨e', rfl⟩ : ∃ e', e = e' + 7 := ⟨e - 7, by omega⟩
      have at157 : Rn (e' + 6) 217 157 [some (2, 129), some (0, 0)] [] (Sg xs n (mix C0 R)) = some ((9, 0), Sg xs n (mix C0 (wrgS R 1))) := by
        rw [h217_157, r193 (e' + 5) w0.1 C0, cK9, pRv]
        exact tail e' C0 0 1 (by decide)
      rw [ent e' C0, bB_f n2, h217_114, if_pos rfl, h217_137, if_neg (fun z => z rfl)]
      simp only [mr129]
      by_cases z : R 129 19 = 0
      · rw [if_neg (fun y => y z), if_neg (by omega)]
        exact at157
      · rw [if_pos z]
        exact at157
/-- all parts of a formula -/
theorem FORM : ∀ q : Nat, CLM xs n d 212 1 1 12 q ∧ CLM xs n d 213 2 2 11 q ∧ CLM xs n d 214 3 4 10 q ∧ CLM xs n d 215 5 5 9 q ∧ CLM xs n d 216 6 6 8 q ∧ CLM xs n d 217 7 7 7 q := by
  intro q
  induction q using Nat.strongRecOn with
  | _ q ih =>
    have p7 := P217 (xs := xs) (n := n) (d := d) q (fun q' z => (ih q' z).1)
    have p6 := P216 q p7 (fun q' z => (ih q' z).2.2.2.2.2)
    have p5 := P215 q p6 (fun q' z => (ih q' z).2.2.2.2.1)
    have p4 := P214 q p5 (fun q' z => (ih q' z).2.2.1)
    have p3 := P213 q p4 (fun q' z => (ih q' z).2.2.1)
    have p2 := P212 q p3 (fun q' z => (ih q' z).2.1)
    exact ⟨p2, p3, p4, p5, p6, p7⟩
end S99r
