/-! Text: a line of a block -/
def bkC (C : Sto) (nb x y z : Int) : Sto := up (up (up (up (up (up (up (up C 6 nb x) 7 nb y) 8 nb z) 12 nb 0) 13 nb 0) 14 nb 0) 15 nb (-1)) 9 0 (nb + 1)
section S99v
variable {xs : Int → Int} {n : Int × Int} {C C' R R' : Sto} {N : Int} {nb m i T d0 : Nat}
theorem e65 (d : Nat) {x y z : Int} (h : C 9 0 = (nb : Int)) (h8 : nb < 8) : dcl xs n (d + 2) 65 [(2, 5), (0, x), (0, y), (0, z)] C (9, 0) (bkC C nb x y z) := by
  intro R0
  have i1 := inb_t (show 0 ≤ (nb : Int) by omega) (show (nb : Int) < 8 by omega)
  have c9 : ∀ F : Sto, (∀ a b c : Int, up (up (up C 6 (nb : Int) a) 7 (nb : Int) b) 8 (nb : Int) c 9 0 = (nb : Int)) := fun F a b c => by rw [up_ne (by decide), up_ne (by decide), up_ne (by decide)]; exact h
  rw [n65, h65_0]
  simp only [mc1, uc1, mc2, uc2, mc3, uc3, mc4, uc4, mc5, uc5, mc6, uc6, mc7, uc7, mc8, uc8, mc9, uc9, mc10, uc10, mc11, uc11, mc12, uc12, mc13, uc13, mc14, uc14, mc15, uc15, mc16, uc16, mc17, uc17, mc18, uc18, mc19, uc19, mc20, uc20, mc21, uc21, mc22, uc22, mc23, uc23, mc24, uc24, mc25, uc25]
  rw [h, if_neg (by omega), if_pos i1, if_pos i1, if_pos i1, n3, h3_0]
  simp only [mc1, uc1, mc2, uc2, mc3, uc3, mc4, uc4, mc5, uc5, mc6, uc6, mc7, uc7, mc8, uc8, mc9, uc9, mc10, uc10, mc11, uc11, mc12, uc12, mc13, uc13, mc14, uc14, mc15, uc15, mc16, uc16, mc17, uc17, mc18, uc18, mc19, uc19, mc20, uc20, mc21, uc21, mc22, uc22, mc23, uc23, mc24, uc24, mc25, uc25]
  rw [c9 C, if_neg (by omega), if_pos i1, if_pos i1, if_pos i1, if_pos i1, h3_59, cK9, pRv, h65_47, w32_idP (by omega) (by omega)]
  rfl
theorem bk_f {x y z w j : Int} (hw : ¬ (w = 6 ∨ w = 7 ∨ w = 8 ∨ w = 12 ∨ w = 13 ∨ w = 14 ∨ w = 15 ∨ w = 9)) : bkC C (nb : Int) x y z w j = C w j := by
  unfold bkC
  rw [up_ne (by omega), up_ne (by omega), up_ne (by omega), up_ne (by omega), up_ne (by omega), up_ne (by omega), up_ne (by omega), up_ne (by omega)]
theorem bk_b {x y z w : Int} {b : Int} (hb : ¬ b = (nb : Int)) (hw : ¬ w = 9) : bkC C (nb : Int) x y z w b = C w b := by
  unfold bkC
  rw [up_ne hw, up_ni hb, up_ni hb, up_ni hb, up_ni hb, up_ni hb, up_ni hb, up_ni hb]
theorem BO_block (hT : RTk N C R) (X : RX nb m i T C R) (hk : R 129 19 = 0) (hv : R 129 20 = ((0 : Nat) : Int)) (h14 : R 129 14 = (T : Int)) (h19 : T < 524288) : BO xs n d0 N i C R := by
  have kc : C 3 4 = -2 := e72w (w := 0) (by decide) hT hk hv
  have g1 : C 9 0 = (nb : Int) := X.2.1.1.1
  have g2 : R 131 7 = (nb : Int) := X.2.1.1.2.1
  have g3 : nb ≤ 8 := X.2.1.1.2.2.1
  have ok := X.2.2.2.choose_spec.2.2.1
  by_cases full : nb = 8
  · refine BO_f (f := 2) hT ok (by decide) (e72_0 kc (Or.inl rfl) (fun d R0 => ?_)) (fun e C0 => r205full (w := 0) (by decide) X.1.1 hk hv (Or.inl ⟨rfl, by rw [g2]; omega⟩) e C0)
    rw [n73, h73_0]
    simp only [mc9]
    rw [g1, if_neg (by omega), e70 (d + 9) 2 R0, cK0, pR0, h73_20, if_pos (show ret01 73 0 = true from rfl)]
  · have h8 : nb < 8 := by omega
    obtain ⟨C2, R2, t1, t2, T2, X2, q14, fc2, fr2, le2, z2⟩ := BEG (xs := xs) (n := n) (w := 0) (by decide) hT X hk hv h14 h19 (by rw [g2]; omega) (by omega)
    have i1 := inb_t (show 0 ≤ 8 + (nb : Int) by omega) (show 8 + (nb : Int) < 16 by omega)
    have g22 : R2 131 7 = (nb : Int) := X2.2.1.1.2.1
    have gc2 : C2 9 0 = (nb : Int) := X2.2.1.1.1
    have ok2 := X2.2.2.2.choose_spec.2.2.1
    have tg2 := (tP_of T2.2.2.2).2.2.2.2.2.2.2.1
    have kc2 := okK_0 (okK_b tg2.1 tg2.2)
    clear tg2
    have at91 : ∀ (e : Nat) (C0 : Sto), den (e + 5) 205 [(2, 129)] (Sg xs n (mix C0 R)) = cK (den (e + 4) 199 [(2, 129), (2, 132), (0, 8), (0, (nb : Int))] (Sg xs n (mix C0 R2))) (fun v s1 => Rn (e + 4) 205 165 [some (2, 129), some (0, 0), some (0, 8 + (nb : Int)), none] (pushR v [(0, 8 + (nb : Int)), (2, 132)]) s1) := by
      intro e C0
      have e0 := r200 (xs := xs) (n := n) (R := R2) (e + 3) (k := 0) (by decide) (by decide) C0
      rw [show (7 : Int) + 0 = 7 from rfl, g22] at e0
      rw [t2 e C0, h205_91, if_pos (show ((0 : Nat) : Int) = 0 from rfl), e0, cK0]
      show Rn (e + 4) 205 143 [some (2, 129), some (0, 0), none, none] [(0, (nb : Int)), (0, 8)] (Sg xs n (mix C0 R2)) = _
      rw [h205_143, e0, cK0, w32_idP (by omega) (by omega)]
      show Rn (e + 4) 205 162 [some (2, 129), some (0, 0), some (0, 8 + (nb : Int)), none] [(0, (nb : Int)), (0, 8), (2, 132), (2, 129), (0, 8 + (nb : Int)), (2, 132)] (Sg xs n (mix C0 R2)) = _
      rw [h205_162]
    have cl28 : ∀ (d : Nat) (R0 : Sto), den (d + 11) 73 [(2, 2)] (Sg xs n (mix C R0)) = Rn (d + 10) 73 28 [some (2, 2), none, none] [] (Sg xs n (mix C2 R0)) := by
      intro d R0
      rw [n73, h73_0]
      simp only [mc9]
      rw [g1, if_pos (by omega), t1 (d + 7) R0, cK9, pRv]
    obtain ⟨k37, fn, nx⟩ | ⟨f, hf, cs, rf⟩ := FRESH (xs := xs) (n := n) T2 X2
    · -- the name is new
      obtain ⟨C3, R3, s1, s2, T3, X3, tf3, _, le3⟩ := tokX (xs := xs) (n := n) T2 X2
      have X3' := RX_hi (z := 132) (v := C2 3 6) (Or.inl rfl) X3
      have T3' : RTk N C3 (up R3 132 (8 + (nb : Int)) (C2 3 6)) := RTk_hi (by decide) T3
      have g73 : up R3 132 (8 + (nb : Int)) (C2 3 6) 131 7 = (nb : Int) := X3'.2.1.1.2.1
      have cl85 : ∀ (d : Nat) (R0 : Sto), den (d + 11) 73 [(2, 2)] (Sg xs n (mix C R0)) = cK (den (d + 10) 74 [(2, 2), (0, 0), (0, 255)] (Sg xs n (mix C3 R0))) (fun v s1 => Rn (d + 10) 73 93 [some (2, 2), some (0, C2 3 6), none] (pushR v []) s1) := by
        intro d R0
        rw [cl28 d R0, h73_28]
        simp only [mc3]
        rw [if_pos (by rw [kc2]; rfl), if_pos k37, e64 (d + 9) (C2 3 6) gc2 g3 R0, cK0, pR0, fn, h73_61, if_pos (by decide)]
        simp only [mc3]
        rw [s1 (d + 7) R0, cK9, pRv, h73_85]
      have rf165 : ∀ (e : Nat) (C0 : Sto), den (e + 5) 205 [(2, 129)] (Sg xs n (mix C0 R)) = cK (den (e + 4) 197 [(2, 129), (0, 0), (0, 255)] (Sg xs n (mix C0 (up R3 132 (8 + (nb : Int)) (C2 3 6))))) (fun v s1 => Rn (e + 4) 205 179 [some (2, 129), some (0, 0), some (0, 8 + (nb : Int)), none] (pushR v [(0, 8 + (nb : Int)), (2, 133)]) s1) := by
        intro e C0
        rw [at91 e C0, nx R3 s2 e C0, cK0]
        show Rn (e + 4) 205 165 [some (2, 129), some (0, 0), some (0, 8 + (nb : Int)), none] [(0, C2 3 6), (0, 8 + (nb : Int)), (2, 132)] (Sg xs n (mix C0 R3)) = _
        rw [h205_165, if_pos i1, ur132]
      have fc3 := fC0_t fc2 (fC0_tk tf3)
      have fr3 : fR0 R (up R3 132 (8 + (nb : Int)) (C2 3 6)) := fR0_t (fR0_t fr2 (fR0_tk tf3)) (fR0_u (by omega))
      have ok3 := X3.2.2.2.choose_spec.2.2.1
      obtain ⟨v1, b1, b2, b3, _, b4, b5⟩ | ⟨f, hf, c4, r4⟩ := NUM (xs := xs) (n := n) (lo := 0) (hi := 255) T3' X3'.1.1 (by decide)
      · obtain ⟨C4, R4, u1, u2, T4, X4, tf4, _, le4⟩ := tokX (xs := xs) (n := n) T3' X3'
        have X4' := RX_hi (z := 133) (v := v1) (Or.inr (Or.inl rfl)) X4
        have T4' : RTk N C4 (up R4 133 (8 + (nb : Int)) v1) := RTk_hi (by decide) T4
        have g74 : up R4 133 (8 + (nb : Int)) v1 131 7 = (nb : Int) := X4'.2.1.1.2.1
        have cl113 : ∀ (d : Nat) (R0 : Sto), den (d + 11) 73 [(2, 2)] (Sg xs n (mix C R0)) = cK (den (d + 10) 74 [(2, 2), (0, 0), (0, 99)] (Sg xs n (mix C4 R0))) (fun v s1 => Rn (d + 10) 73 120 [some (2, 2), some (0, C2 3 6), some (0, v1)] (pushR v []) s1) := by
          intro d R0
          rw [cl85 d R0, b4 (d + 8) R0, cK0, pR0, h73_93, if_pos (by decide)]
          simp only [mc3]
          rw [u1 (d + 7) R0, cK9, pRv, b3, h73_113]
        have rf179 : ∀ (e : Nat) (C0 : Sto), den (e + 5) 205 [(2, 129)] (Sg xs n (mix C0 R)) = cK (den (e + 4) 197 [(2, 129), (0, 0), (0, 99)] (Sg xs n (mix C0 (up R4 133 (8 + (nb : Int)) v1)))) (fun v s1 => Rn (e + 4) 205 192 [some (2, 129), some (0, 0), some (0, 8 + (nb : Int)), none] (pushR v [(0, 8 + (nb : Int)), (2, 134)]) s1) := by
          intro e C0
          rw [rf165 e C0, b5 R4 u2 e C0, cK0]
          show Rn (e + 4) 205 179 [some (2, 129), some (0, 0), some (0, 8 + (nb : Int)), none] [(0, v1), (0, 8 + (nb : Int)), (2, 133)] (Sg xs n (mix C0 R4)) = _
          rw [h205_179, if_pos i1, ur133]
        have fc4 := fC0_t fc3 (fC0_tk tf4)
        have fr4 : fR0 R (up R4 133 (8 + (nb : Int)) v1) := fR0_t (fR0_t fr3 (fR0_tk tf4)) (fR0_u (by omega))
        have ok4 := X4.2.2.2.choose_spec.2.2.1
        obtain ⟨v2, a1, a2, a3, _, a4, a5⟩ | ⟨f, hf, c4, r4⟩ := NUM (xs := xs) (n := n) (lo := 0) (hi := 99) T4' X4'.1.1 (by decide)
        · -- the block is told
          have gc4 : C4 9 0 = (nb : Int) := X4.2.1.1.1
          have T5 : RTk N (bkC C4 nb (C2 3 6) v1 v2) (up R4 133 (8 + (nb : Int)) v1) := RTk_c (by funext j; rw [bk_f (by decide)]) (by funext j; rw [bk_f (by decide)]) rfl (fun _ _ _ => rfl) T4'
          obtain ⟨C6, R5, p1, p2, T6, tf6, _, le6⟩ := tok (xs := xs) (n := n) T5
          have cz : ∀ z : Int, ¬ z = 3 → C6 z = bkC C4 nb (C2 3 6) v1 v2 z := tf6.1
          have rz : ∀ z : Int, ¬ z = 129 → R5 z = up R4 133 (8 + (nb : Int)) v1 z := tf6.2.2.1
          have r129 : ∀ j : Int, j < 17 ∨ 20 < j → R5 129 j = up R4 133 (8 + (nb : Int)) v1 129 j := tf6.2.2.2
          have c33 : bkC C4 nb (C2 3 6) v1 v2 3 3 = C4 3 3 := bk_f (by decide)
          have fc6 : fC0 C C6 := fC0_t fc4 (fC0_t (fun z j q => bk_f (by omega)) (fC0_tk tf6))
          refine ⟨C6, up (up (up R5 134 (8 + (nb : Int)) v2) 135 (8 + (nb : Int)) 0) 131 7 ((nb + 1 : Nat) : Int), fun e C0 he => ?_, fc6, fR0_t (fR0_t fr4 (fR0_tk tf6)) (fR0_t (fR0_u (by omega)) (fR0_t (fR0_u (by omega)) (fR0_u (by omega)))), Or.inr (Or.inr ⟨e72_0 kc (Or.inr rfl) (fun d R0 => ?_) d0, nb + 1, m, T ||| 2 ^ 0, ?_, ?_, ?_, or_19 h19 (by decide), by omega⟩)⟩
          · obtain ⟨e', rfl⟩ : ∃ e', e = e' + 4 := ⟨e - 4, by omega⟩
            rw [rf179 e' C0, a5 R5 p2 e' C0, cK0]
            exact r192b e' (by rw [rz 131 (by decide)]; exact g74) h8 C0
          · rw [cl113 d R0, a4 (d + 8) R0, cK0, pR0, h73_120, if_pos (by decide)]
            simp only [mc3]
            rw [a3, e65 (d + 8) gc4 h8 R0, cK9, pRv, h73_141, p1 (d + 7) R0, cK9, pRv, h73_148]
          · exact RTk_hi (by decide) (RTk_hi (by decide) (RTk_hi (by decide) T6))
          · obtain ⟨⟨y1, y2, y3, y4, y5⟩, g, s, l⟩ := X4'
            generalize hW : up (up (up R5 134 (8 + (nb : Int)) v2) 135 (8 + (nb : Int)) 0) 131 7 ((nb + 1 : Nat) : Int) = R6
            have w129 : ∀ j : Int, R6 129 j = R5 129 j := fun j => by rw [← hW, up_ne (by decide), up_ne (by decide), up_ne (by decide)]
            have w131 : ∀ j : Int, ¬ j = 7 → R6 131 j = up R4 133 (8 + (nb : Int)) v1 131 j := fun j hj => by rw [← hW, up_ni hj, up_ne (by decide), up_ne (by decide), rz 131 (by decide)]
            have w7 : R6 131 7 = ((nb + 1 : Nat) : Int) := by rw [← hW, up_at]
            have wz : ∀ z : Int, ¬ (z = 129 ∨ z = 131 ∨ z = 134 ∨ z = 135) → R6 z = up R4 133 (8 + (nb : Int)) v1 z := fun z hz => by
              funext j
              rw [← hW, up_ne (by omega), up_ne (by omega), up_ne (by omega), rz z (by omega)]
            have w134 : ∀ j : Int, R6 134 j = if j = 8 + (nb : Int) then v2 else up R4 133 (8 + (nb : Int)) v1 134 j := fun j => by
              rw [← hW, up_ne (by decide), up_ne (by decide)]
              by_cases q : j = 8 + (nb : Int)
              · rw [if_pos q, q, up_at]
              · rw [if_neg q, up_ni q, rz 134 (by decide)]
            have w135 : ∀ j : Int, R6 135 j = if j = 8 + (nb : Int) then 0 else up R4 133 (8 + (nb : Int)) v1 135 j := fun j => by
              rw [← hW, up_ne (by decide)]
              by_cases q : j = 8 + (nb : Int)
              · rw [if_pos q, q, up_at]
              · rw [if_neg q, up_ni q, up_ne (by decide), rz 135 (by decide)]
            refine ⟨⟨by rw [w129, r129 21 (by decide)]; exact y1, by rw [cz 2 (by decide), bk_f (by decide)]; exact y2, by rw [cz 2 (by decide), bk_f (by decide)]; exact y3, by rw [w129, r129 22 (by decide)]; exact y4, by rw [w129, r129 25 (by decide)]; exact y5⟩, ?_, ?_, DL_c (by rw [cz 19 (by decide), bk_f (by decide)]) (by rw [cz 19 (by decide), bk_f (by decide)]) (fun z z1 z2 => by rw [cz z (by omega)]; funext j; exact bk_f (by omega)) (fun z z1 z2 => wz z (by omega)) (by rw [w129, r129 26 (by decide)]) (w131 13 (by decide)) l⟩
            · refine DG_add (x := C2 3 6) (y := v1) (z := v2) g h8 (by rw [cz 9 (by decide)]; unfold bkC; rw [up_at]; omega) (by rw [cz 9 (by decide)]; unfold bkC; rw [up_ni (by decide), up_ne (by decide), up_ne (by decide), up_ne (by decide), up_ne (by decide), up_ne (by decide), up_ne (by decide), up_ne (by decide)]) w7 (w131 8 (by decide)) (fun b hb => ?_) (by rw [cz 10 (by decide)]; funext j; exact bk_f (by decide)) (by rw [cz 11 (by decide)]; funext j; exact bk_f (by decide)) (by rw [cz 16 (by decide)]; funext j; exact bk_f (by decide)) (fun b hb => ?_) (wz 136 (by decide)) (wz 137 (by decide)) ?_ ?_ ?_ ?_ ?_
              · rw [cz 6 (by decide), cz 7 (by decide), cz 8 (by decide), cz 12 (by decide), cz 13 (by decide), cz 14 (by decide), cz 15 (by decide)]
                have hbn : ¬ (b : Int) = (nb : Int) := by omega
                exact ⟨bk_b hbn (by decide), bk_b hbn (by decide), bk_b hbn (by decide), bk_b hbn (by decide), bk_b hbn (by decide), bk_b hbn (by decide), bk_b hbn (by decide)⟩
              · rw [wz 132 (by decide), wz 133 (by decide), w134, w135, if_neg (by omega), if_neg (by omega)]
                exact ⟨rfl, rfl, rfl, rfl⟩
              · rw [cz 6 (by decide), wz 132 (by decide)]
                constructor
                · unfold bkC
                  rw [up_ne (by decide), up_ne (by decide), up_ne (by decide), up_ne (by decide), up_ne (by decide), up_ne (by decide), up_ne (by decide), up_at]
                · rw [up_ne (by decide), tf4.2.2.1 132 (by decide), up_at]
              · rw [cz 7 (by decide), wz 133 (by decide)]
                refine ⟨?_, up_at, b1, b2⟩
                unfold bkC
                rw [up_ne (by decide), up_ne (by decide), up_ne (by decide), up_ne (by decide), up_ne (by decide), up_ne (by decide), up_at]
              · rw [cz 8 (by decide), w134, if_pos rfl]
                refine ⟨?_, rfl, a1, a2⟩
                unfold bkC
                rw [up_ne (by decide), up_ne (by decide), up_ne (by decide), up_ne (by decide), up_ne (by decide), up_at]
              · rw [cz 15 (by decide), w135, if_pos rfl]
                refine ⟨?_, rfl⟩
                unfold bkC
                rw [up_ne (by decide), up_at]
              · rw [cz 12 (by decide), cz 13 (by decide), cz 14 (by decide)]
                unfold bkC
                refine ⟨?_, ?_, ?_⟩
                · rw [up_ne (by decide), up_ne (by decide), up_ne (by decide), up_ne (by decide), up_at]
                · rw [up_ne (by decide), up_ne (by decide), up_ne (by decide), up_at]
                · rw [up_ne (by decide), up_ne (by decide), up_at]
            · refine DS_T (T := T) (fun k hk => or_bit (by omega)) (DS_n (DS_c (by rw [cz 5 (by decide)]; funext j; exact bk_f (by decide)) (by rw [cz 22 (by decide)]; funext j; exact bk_f (by decide)) (by rw [cz 23 (by decide)]; funext j; exact bk_f (by decide)) (fun j z1 z2 => w131 j (by omega)) (by rw [w129, r129 15 (by decide)]) s))
          · rw [up_ne (by decide), up_ne (by decide), up_ne (by decide), r129 14 (by decide), up_ne (by decide), tf4.2.2.2 14 (by decide), up_ne (by decide), tf3.2.2.2 14 (by decide)]
            exact q14
        · -- no works
          have wf := wr_f (R := up R4 133 (8 + (nb : Int)) v1) hf
          refine ⟨flS C4 f, up (up (up (wrgS (up R4 133 (8 + (nb : Int)) v1) f) 134 (8 + (nb : Int)) 0) 135 (8 + (nb : Int)) 0) 131 7 ((nb + 1 : Nat) : Int), fun e C0 he => ?_, fC0_t fc4 fC0_fl, fR0_t (fR0_t fr4 fR0_wr) (fR0_t (fR0_u (by omega)) (fR0_t (fR0_u (by omega)) (fR0_u (by omega)))), Or.inl ⟨e72_0 kc (Or.inl rfl) (fun d R0 => ?_) d0, ?_, ok20_fl ok4⟩⟩
          · obtain ⟨e', rfl⟩ : ∃ e', e = e' + 4 := ⟨e - 4, by omega⟩
            rw [rf179 e' C0, r4 e' C0, cK0]
            exact r192b e' (by unfold wrgS; rw [up_ne (by decide), up_ne (by decide)]; exact g74) h8 C0
          · rw [cl113 d R0, c4 (d + 8) R0, cK0, pR0, h73_120, if_neg (by decide)]
          · unfold FT
            rw [up_ne (show ¬ (129 : Int) = 131 by decide), up_ne (show ¬ (129 : Int) = 135 by decide), up_ne (show ¬ (129 : Int) = 134 by decide), up_ne (show ¬ (129 : Int) = 131 by decide), up_ne (show ¬ (129 : Int) = 135 by decide), up_ne (show ¬ (129 : Int) = 134 by decide)]
            unfold flS wrgS
            rw [up_ni (show ¬ (2 : Int) = 3 by decide), up_at, up_at, up_at, up_ni (show ¬ (21 : Int) = 22 by decide), up_at]
            exact ⟨rfl, T4'.2.2.1.1, hf⟩
      · -- no sign
        have wf := wr_f (R := up R3 132 (8 + (nb : Int)) (C2 3 6)) hf
        refine ⟨flS C3 f, up (up (up (up (wrgS (up R3 132 (8 + (nb : Int)) (C2 3 6)) f) 133 (8 + (nb : Int)) 0) 134 (8 + (nb : Int)) 0) 135 (8 + (nb : Int)) 0) 131 7 ((nb + 1 : Nat) : Int), fun e C0 he => ?_, fC0_t fc3 fC0_fl, fR0_t (fR0_t fr3 fR0_wr) (fR0_t (fR0_u (by omega)) (fR0_t (fR0_u (by omega)) (fR0_t (fR0_u (by omega)) (fR0_u (by omega))))), Or.inl ⟨e72_0 kc (Or.inl rfl) (fun d R0 => ?_) d0, ?_, ok20_fl ok3⟩⟩
        · obtain ⟨e', rfl⟩ : ∃ e', e = e' + 4 := ⟨e - 4, by omega⟩
          rw [rf165 e' C0, r4 e' C0, cK0]
          exact r179b e' (by unfold wrgS; rw [up_ne (by decide), up_ne (by decide)]; exact g73) h8 wf C0
        · rw [cl85 d R0, c4 (d + 8) R0, cK0, pR0, h73_93, if_neg (by decide)]
        · unfold FT
          rw [up_ne (show ¬ (129 : Int) = 131 by decide), up_ne (show ¬ (129 : Int) = 135 by decide), up_ne (show ¬ (129 : Int) = 134 by decide), up_ne (show ¬ (129 : Int) = 133 by decide), up_ne (show ¬ (129 : Int) = 131 by decide), up_ne (show ¬ (129 : Int) = 135 by decide), up_ne (show ¬ (129 : Int) = 134 by decide), up_ne (show ¬ (129 : Int) = 133 by decide)]
          unfold flS wrgS
          rw [up_ni (show ¬ (2 : Int) = 3 by decide), up_at, up_at, up_at, up_ni (show ¬ (21 : Int) = 22 by decide), up_at]
          exact ⟨rfl, T3'.2.2.1.1, hf⟩
    · -- no new name
      have wf := wr_f (R := R2) hf
      have wf' : ¬ up (wrgS R2 f) 132 (8 + (nb : Int)) 0 129 21 = 0 := by rw [up_ne (by decide)]; exact wf
      refine ⟨flS C2 f, up (up (up (up (up (wrgS R2 f) 132 (8 + (nb : Int)) 0) 133 (8 + (nb : Int)) 0) 134 (8 + (nb : Int)) 0) 135 (8 + (nb : Int)) 0) 131 7 ((nb + 1 : Nat) : Int), fun e C0 he => ?_, fC0_t fc2 fC0_fl, fR0_t (fR0_t fr2 fR0_wr) (fR0_t (fR0_u (by omega)) (fR0_t (fR0_u (by omega)) (fR0_t (fR0_u (by omega)) (fR0_t (fR0_u (by omega)) (fR0_u (by omega)))))), Or.inl ⟨e72_0 kc (Or.inl rfl) (fun d R0 => ?_) d0, ?_, ok20_fl ok2⟩⟩
      · obtain ⟨e', rfl⟩ : ∃ e', e = e' + 4 := ⟨e - 4, by omega⟩
        rw [at91 e' C0, rf e' C0, cK0]
        show ∃ o1 o2 o3 : Option Vv, Rn (e' + 4) 205 165 [some (2, 129), some (0, 0), some (0, 8 + (nb : Int)), none] [(0, 0), (0, 8 + (nb : Int)), (2, 132)] (Sg xs n (mix C0 (wrgS R2 f))) = _
        rw [h205_165, if_pos i1, ur132, r197n (e' + 3) wf' C0, cK0]
        exact r179b e' (by unfold wrgS; rw [up_ne (by decide), up_ne (by decide), up_ne (by decide)]; exact g22) h8 wf' C0
      · obtain ⟨k1, k2⟩ | ⟨k1, k2, k3⟩ := cs
        · rw [cl28 d R0, h73_28]
          simp only [mc3]
          rw [if_pos (by rw [kc2]; rfl), if_neg k1, e70 (d + 9) 1 R0, cK0, pR0, h73_46, if_pos (show ret01 73 0 = true from rfl), k2]
        · rw [cl28 d R0, h73_28]
          simp only [mc3]
          rw [if_pos (by rw [kc2]; rfl), if_pos k1, e64 (d + 9) (C2 3 6) gc2 g3 R0, cK0, pR0, h73_61, if_neg k2, e70 (d + 9) 3 R0, cK0, pR0, h73_69, if_pos (show ret01 73 0 = true from rfl), k3]
      · unfold FT
        rw [up_ne (show ¬ (129 : Int) = 131 by decide), up_ne (show ¬ (129 : Int) = 135 by decide), up_ne (show ¬ (129 : Int) = 134 by decide), up_ne (show ¬ (129 : Int) = 133 by decide), up_ne (show ¬ (129 : Int) = 132 by decide), up_ne (show ¬ (129 : Int) = 131 by decide), up_ne (show ¬ (129 : Int) = 135 by decide), up_ne (show ¬ (129 : Int) = 134 by decide), up_ne (show ¬ (129 : Int) = 133 by decide), up_ne (show ¬ (129 : Int) = 132 by decide)]
        unfold flS wrgS
        rw [up_ni (show ¬ (2 : Int) = 3 by decide), up_at, up_at, up_at, up_ni (show ¬ (21 : Int) = 22 by decide), up_at]
        exact ⟨rfl, T2.2.2.1.1, hf⟩
end S99v
