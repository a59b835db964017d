/-! Text: all lines -/
section S99zb
variable {xs : Int → Int} {n : Int × Int} {C C' R R' : Sto} {N : Int} {nb m i T d0 : Nat}
theorem BO_all (hT : RTk N C R) (X : RX nb m i T C R) (h14 : R 129 14 = (T : Int)) (h19 : T < 524288) : BO xs n d0 N i C R := by
  have tg := (tP_of hT.2.2.2).2.2.2.2.2.2.1
  have ok := X.2.2.2.choose_spec.2.2.1
  by_cases q : R 129 19 = 0 ∧ R 129 20 ≤ 7
  · have r0 := (tg.1 q.1 q.2).2
    clear tg
    have cs : R 129 20 = ((0 : Nat) : Int) ∨ R 129 20 = ((1 : Nat) : Int) ∨ R 129 20 = ((2 : Nat) : Int) ∨ R 129 20 = ((3 : Nat) : Int) ∨ R 129 20 = ((4 : Nat) : Int) ∨ R 129 20 = ((5 : Nat) : Int) ∨ R 129 20 = ((6 : Nat) : Int) ∨ R 129 20 = ((7 : Nat) : Int) := by omega
    obtain z | z | z | z | z | z | z | z := cs
    · exact BO_block hT X q.1 z h14 h19
    · exact BO_edge hT X q.1 z h14 h19
    · exact BO_check hT X q.1 z h14 h19
    · exact BO_base hT X q.1 z h14 h19
    · exact BO_set4 hT X q.1 z h14 h19
    · exact BO_set5 hT X q.1 z h14 h19
    · exact BO_set6 hT X q.1 z h14 h19
    · exact BO_law hT X q.1 z h14 h19
  · exact BO_f (f := 1) hT ok (by decide) (e72x hT (tg.2 q)) (fun e C0 => r205x X.1.1 q e C0)
/-- where a text's reading ends -/
def LQ (xs : Int → Int) (n : Int × Int) (d0 : Nat) (N : Int) (i : Nat) (C R' : Sto) : Prop := (∃ C' : Sto, (∀ (R0 : Sto) (o1 : Option Vv), Rn (d0 + 12) 69 27 [some (2, 2), o1, some (0, (i : Int))] [] (Sg xs n (mix C R0)) = some ((0, 0), Sg xs n (mix C' R0))) ∧ FT C' R' ∧ fC0 C C' ∧ ok20 C') ∨ (∃ (C' : Sto) (nb m T j : Nat), (∀ (R0 : Sto) (o1 : Option Vv), Rn (d0 + 12) 69 27 [some (2, 2), o1, some (0, (i : Int))] [] (Sg xs n (mix C R0)) = Rn (d0 + 12) 69 85 [some (2, 2), none, some (0, (j : Int))] [] (Sg xs n (mix C' R0))) ∧ RX nb m j T C' R' ∧ fC0 C C')
theorem LOOP : ∀ (r i nb m T : Nat) (C R : Sto), i + r = 700 → RTk N C R → RX nb m i T C R → R 129 14 = (T : Int) → T < 524288 → (C 3 4 = -38 ∨ (i : Int) < C 3 3) → ∃ R' : Sto, (∀ (e : Nat) (C0 : Sto) (o2 : Option Vv), 151 ≤ e → Rn e 219 127 [some (2, 129), none, o2] [] (Sg xs n (mix C0 R)) = Rn e 219 149 [some (2, 129), none, none] [] (Sg xs n (mix C0 R'))) ∧ fR0 R R' ∧ LQ xs n d0 N i C R' := by
  intro r
  induction r with
  | zero =>
    intro i nb m T C R hi hT X h14 h19 iv
    have k38 := (tP_of hT.2.2.2).2.1.2.2
    have c33 : C 3 3 ≤ 700 := by
      have a := hT.2.2.1.2.1
      have b := hT.2.2.1.2.2.2
      have c := hT.1.2.2
      omega
    have kc : C 3 4 = -38 := by
      obtain z | z := iv
      · exact z
      · omega
    have rk := k38.mp kc
    refine ⟨R, fun e C0 o2 he => ?_, fR0_r, Or.inr ⟨C, nb, m, T, i, fun R0 o1 => ?_, X, fC0_r⟩⟩
    · rw [h219_127]
      simp only [mr129]
      rw [if_neg (fun z => z X.1.1), if_pos rk]
    · rw [h69_27, if_pos (by omega)]
  | succ r ih =>
    intro i nb m T C R hi hT X h14 h19 iv
    have k38 := (tP_of hT.2.2.2).2.1.2.2
    have tg := (tP_of hT.2.2.2).2.2.2.2.2.2.2.1
    have kc0 := okK_0 (okK_b tg.1 tg.2)
    clear tg
    by_cases kc : C 3 4 = -38
    · have rk := k38.mp kc
      refine ⟨R, fun e C0 o2 he => ?_, fR0_r, Or.inr ⟨C, nb, m, T, i, fun R0 o1 => ?_, X, fC0_r⟩⟩
      · rw [h219_127]
        simp only [mr129]
        rw [if_neg (fun z => z X.1.1), if_pos rk]
      · rw [h69_27]
        simp only [mc3]
        rw [if_neg (by omega), if_pos (by rw [kc0]; rfl), if_pos kc]
    · have rk : ¬ R 129 19 = 4 := fun z => kc (k38.mpr z)
      have iC : (i : Int) < C 3 3 := by
        obtain z | z := iv
        · exact absurd z kc
        · exact z
      have s5 := X.2.2.1.2.2.2.2.1
      obtain ⟨R1, b1, b2, b3⟩ := BO_LO (show i < 700 by omega) s5.2 (BO_all (xs := xs) (n := n) (d0 := d0) hT X h14 h19)
      have cl : ∀ (R0 : Sto) (o1 : Option Vv), Rn (d0 + 12) 69 27 [some (2, 2), o1, some (0, (i : Int))] [] (Sg xs n (mix C R0)) = cK (den (d0 + 12) 72 [(2, 2)] (Sg xs n (mix C R0))) (fun v s1 => Rn (d0 + 12) 69 51 [some (2, 2), none, some (0, (i : Int))] (pushR v []) s1) := by
        intro R0 o1
        rw [h69_27]
        simp only [mc3]
        rw [if_neg (by omega), if_pos (by rw [kc0]; rfl), if_neg kc]
      have rf : ∀ (e : Nat) (C0 : Sto) (o2 : Option Vv), 151 ≤ e → Rn e 219 127 [some (2, 129), none, o2] [] (Sg xs n (mix C0 R)) = Rn e 219 127 [some (2, 129), none, none] [] (Sg xs n (mix C0 R1)) := by
        intro e C0 o2 he
        rw [h219_127]
        simp only [mr129]
        rw [if_neg (fun z => z X.1.1), if_neg rk, b1 e he C0, cK9, pRv, h219_146]
      have stop : ¬ R1 129 21 = 0 → ∀ (e : Nat) (C0 : Sto) (o2 : Option Vv), 151 ≤ e → Rn e 219 127 [some (2, 129), none, o2] [] (Sg xs n (mix C0 R)) = Rn e 219 149 [some (2, 129), none, none] [] (Sg xs n (mix C0 R1)) := by
        intro wf e C0 o2 he
        rw [rf e C0 o2 he, h219_127]
        simp only [mr129]
        rw [if_pos wf]
      obtain ⟨C1, c1, c2, c3, c4⟩ | ⟨C1, C2, c1, c1', c2, c3, c4⟩ | ⟨C1, C2, c1, c1', c59, c3, pg, nb', m', T', c4, c5, c6, c7⟩ := b3
      · refine ⟨R1, stop c2.2.2, b2, Or.inl ⟨C1, fun R0 o1 => ?_, c2, c3, c4⟩⟩
        rw [cl R0 o1, c1 R0, cK0, pR0, h69_51, if_pos rfl, h69_64]
      · refine ⟨R1, stop c2.2.2, b2, Or.inl ⟨C2, fun R0 o1 => ?_, c2, c3, c4⟩⟩
        rw [cl R0 o1, c1 R0, cK0, pR0, h69_51, if_neg (by decide), c1' (d0 + 8) R0, cK0, pR0, h69_61, if_neg (fun z => z rfl), h69_64]
      · have u3 : up C2 5 9 ((i + 1 : Nat) : Int) 3 = C2 3 := by funext j; rw [up_ne (by decide)]
        obtain ⟨R2, d1, d2, d3⟩ := ih (i + 1) nb' m' T' (up C2 5 9 ((i + 1 : Nat) : Int)) R1 (by omega) c4 c5 c6 c7 (by rw [u3]; omega)
        have st : ∀ (R0 : Sto) (o1 : Option Vv), Rn (d0 + 12) 69 27 [some (2, 2), o1, some (0, (i : Int))] [] (Sg xs n (mix C R0)) = Rn (d0 + 12) 69 27 [some (2, 2), none, some (0, ((i + 1 : Nat) : Int))] [] (Sg xs n (mix (up C2 5 9 ((i + 1 : Nat) : Int)) R0)) := by
          intro R0 o1
          rw [cl R0 o1, c1 R0, cK0, pR0, h69_51, if_neg (by decide), c1' (d0 + 8) R0, cK0, pR0, h69_61, if_pos (by decide)]
          simp only [mc5, uc5]
          rw [c59, w1 (by omega)]
        have fc : fC0 C (up C2 5 9 ((i + 1 : Nat) : Int)) := fC0_t c3 (fC0_u (by omega))
        refine ⟨R2, fun e C0 o2 he => (rf e C0 o2 he).trans (d1 e C0 none he), fR0_t b2 d2, ?_⟩
        obtain ⟨C', e1, e2, e3, e4⟩ | ⟨C', nb2, m2, T2, j, e1, e2, e3⟩ := d3
        · exact Or.inl ⟨C', fun R0 o1 => (st R0 o1).trans (e1 R0 none), e2, fC0_t fc e3, e4⟩
        · exact Or.inr ⟨C', nb2, m2, T2, j, fun R0 o1 => (st R0 o1).trans (e1 R0 none), e2, fC0_t fc e3⟩
end S99zb
