/-! Text: lines of what is set -/
section S99x
variable {xs : Int → Int} {n : Int × Int} {C C' R R' : Sto} {N : Int} {nb m i T d0 : Nat}
theorem e66_4 (d : Nat) (hb : C 5 10 = 0 ∨ C 5 10 = 1) : dcl xs n (d + 1) 66 [(2, 5), (2, (-6))] C (0, C 5 10) C := by
  intro R0
  have hr : ret01 66 (C 5 10) = true := by
    obtain z | z := hb <;> (rw [z]; rfl)
  rw [n66, h66_0, if_pos (show (okK0 (-6) && okK0 (-6)) = true from rfl), if_neg (show ¬ ¬ (-6 : Int) = -6 from fun z => z rfl)]
  simp only [mc5]
  rw [h66_32, if_pos hr]
theorem e67_4 (d : Nat) {v : Int} : dcl xs n (d + 1) 67 [(2, 5), (2, (-6)), (0, v)] C (9, 0) (up (up C 5 6 v) 5 10 1) := by
  intro R0
  rw [n67, h67_0, if_pos (show (okK0 (-6) && okK0 (-6)) = true from rfl), if_neg (show ¬ ¬ (-6 : Int) = -6 from fun z => z rfl), h67_50]
  simp only [uc5]
theorem e72_4 {b : Int} {C1 : Sto} (h : C 3 4 = -6) (hb : b = 0 ∨ b = 1) (c : ∀ d : Nat, dcl xs n (d + 11) 79 [(2, 2), (2, (-6))] C (0, b) C1) : ∀ d : Nat, dcl xs n (d + 12) 72 [(2, 2)] C (0, b) C1 := by
  intro d R0
  have hr : ret01 72 b = true := by
    obtain z | z := hb <;> (rw [z]; rfl)
  have s : kSw ((4 : Nat) : Int) = 5 := rfl
  rw [e72 d (k := 4) (by decide) h R0, h72_13, if_pos (inb_t (by decide) (by decide)), s, if_neg (by decide), if_neg (by decide), if_neg (by decide), if_neg (by decide), if_pos rfl]
  simp only [mc3]
  rw [h, c d R0, cK0, pR0, h72_91, if_pos hr]
theorem BO_set4 (hT : RTk N C R) (X : RX nb m i T C R) (hk : R 129 19 = 0) (hv : R 129 20 = ((4 : Nat) : Int)) (h14 : R 129 14 = (T : Int)) (h19 : T < 524288) : BO xs n d0 N i C R := by
  have kc : C 3 4 = -6 := e72w (w := 4) (by decide) hT hk hv
  have ok := X.2.2.2.choose_spec.2.2.1
  have tl : C 5 10 = bB (T.testBit 4 = true) := X.2.2.1.2.2.2.2.2.1.1
  have tb : C 5 10 = 0 ∨ C 5 10 = 1 := by
    rw [tl]
    by_cases z : T.testBit 4 = true
    · exact Or.inr (bB_t z)
    · exact Or.inl (bB_f z)
  have at48 : ∀ (d : Nat) (R0 : Sto), den (d + 11) 79 [(2, 2), (2, (-6))] (Sg xs n (mix C R0)) = Rn (d + 10) 79 48 [some (2, 2), some (2, (-6)), some (0, 1), some (0, 40)] [(0, C 5 10)] (Sg xs n (mix C R0)) := by
    intro d R0
    rw [n79, h79_0, if_pos (show (okK0 (-6) && okK0 (-6)) = true from rfl), if_neg (show ¬ ¬ (-6 : Int) = -6 from fun z => z rfl), h79_12, if_pos (show (okK0 (-6) && okK0 (-6)) = true from rfl), if_neg (show ¬ ¬ (-6 : Int) = -6 from fun z => z rfl), h79_39, e66_4 (d + 9) tb R0, cK0, pR0]
  by_cases bt : T.testBit 4 = true
  · refine BO_f (f := 3) hT ok (by decide) (e72_4 kc (Or.inl rfl) (fun d R0 => ?_)) (fun e C0 => r205told (w := 4) (by decide) X.1.1 hk hv h14 h19 bt e C0)
    rw [at48 d R0, tl, bB_t bt, h79_48, if_neg (by decide), e70 (d + 9) 3 R0, cK0, pR0, h79_56, if_pos (show ret01 79 0 = true from rfl)]
  · obtain ⟨C2, R2, t1, t2, T2, X2, q14, fc2, fr2, le2, z2⟩ := BEG (xs := xs) (n := n) (w := 4) (by decide) hT X hk hv h14 h19 (by omega) (fun _ => bt)
    have ok2 := X2.2.2.2.choose_spec.2.2.1
    have x1 := X2.1.1
    have at91 : ∀ (e : Nat) (C0 : Sto), den (e + 5) 205 [(2, 129)] (Sg xs n (mix C0 R)) = cK (den (e + 4) 197 [(2, 129), (0, 1), (0, 40)] (Sg xs n (mix C0 R2))) (fun v s1 => Rn (e + 4) 205 289 [some (2, 129), some (0, 4), none, none] (pushR v [(0, 3), (2, 129)]) s1) := by
      intro e C0
      rw [t2 e C0, h205_91, if_neg (by decide), if_neg (by decide), if_neg (by decide), if_neg (by decide), if_pos (show ((4 : Nat) : Int) = 4 from rfl)]
      rfl
    have cl : ∀ (d : Nat) (R0 : Sto), den (d + 11) 79 [(2, 2), (2, (-6))] (Sg xs n (mix C R0)) = cK (den (d + 10) 74 [(2, 2), (0, 1), (0, 40)] (Sg xs n (mix C2 R0))) (fun v s1 => Rn (d + 10) 79 70 [some (2, 2), some (2, (-6)), some (0, 1), some (0, 40)] (pushR v []) s1) := by
      intro d R0
      rw [at48 d R0, tl, bB_f bt, h79_48, if_pos rfl, t1 (d + 7) R0, cK9, pRv, h79_64]
    have tail : ∀ (e : Nat) (C0 F : Sto) (v : Int), Rn (e + 4) 205 289 [some (2, 129), some (0, 4), none, none] [(0, v), (0, 3), (2, 129)] (Sg xs n (mix C0 F)) = Rn (e + 4) 205 329 [some (2, 129), some (0, 4), none, none] [] (Sg xs n (mix C0 (up F 131 10 v))) := by
      intro e C0 F v
      have e3 := r201 (xs := xs) (n := n) (R := F) (e + 3) (k := 3) (v := v) (by decide) (by decide) C0
      rw [show (7 : Int) + 3 = 10 from rfl] at e3
      rw [h205_289, e3, cK9, pRv, h205_292]
    obtain ⟨v, b1, b2, b3, _, b4, b5⟩ | ⟨f, hf, c4, r4⟩ := NUM (xs := xs) (n := n) (lo := 1) (hi := 40) T2 x1 (by decide)
    · have T3 : RTk N (up (up C2 5 6 v) 5 10 1) R2 := RTk_c (by funext j; rw [up_ne (by decide), up_ne (by decide)]) (by funext j; rw [up_ne (by decide), up_ne (by decide)]) rfl (fun _ _ _ => rfl) T2
      obtain ⟨C4, R3, p1, p2, T4, tf, _, le4⟩ := tok (xs := xs) (n := n) T3
      have c33 : up (up C2 5 6 v) 5 10 1 3 3 = C2 3 3 := by rw [up_ne (by decide), up_ne (by decide)]
      have X3 : RX nb m i (T ||| 2 ^ 4) (up (up C2 5 6 v) 5 10 1) (up R2 131 10 v) := by
        refine RX_u (T := T) ⟨rfl, by decide, by decide⟩ X2 ?_ (fun y hy => by funext j; rw [up_ne hy, up_ne hy])
        obtain ⟨⟨K, s1, s1', s1''⟩, s2, s3, s4, s5, s6, s7⟩ := X2.2.2.1
        have cu : ∀ j : Int, ¬ j = 6 → ¬ j = 10 → up (up C2 5 6 v) 5 10 1 5 j = C2 5 j := fun j h1 h2 => by rw [up_ni h2, up_ni h1]
        have ru : ∀ j : Int, ¬ j = 10 → up R2 131 10 v 131 j = R2 131 j := fun j h1 => up_ni h1
        have uf : up (up C2 5 6 v) 5 10 1 5 6 = v := by rw [up_ni (by decide), up_at]
        have ut : up (up C2 5 6 v) 5 10 1 5 10 = bB ((T ||| 2 ^ 4).testBit 4 = true) := by rw [up_at, bB_t or_bit1]
        have ur : up R2 131 10 v 131 10 = v := up_at
        unfold DS
        rw [show up (up C2 5 6 v) 5 10 1 22 = C2 22 by funext j; rw [up_ne (by decide), up_ne (by decide)], show up (up C2 5 6 v) 5 10 1 23 = C2 23 by funext j; rw [up_ne (by decide), up_ne (by decide)], up_ne (show ¬ (129 : Int) = 131 by decide), uf, ut, ur, cu 5 (by decide) (by decide), cu 9 (by decide) (by decide), ru 9 (by decide), cu 7 (by decide) (by decide), cu 8 (by decide) (by decide), cu 11 (by decide) (by decide), cu 12 (by decide) (by decide), ru 11 (by decide), ru 12 (by decide), or_bit (show ¬ 4 = 5 by decide), or_bit (show ¬ 4 = 6 by decide)]
        refine ⟨⟨K, s1, s1', s1''⟩, ⟨rfl, b1, b2⟩, s3, s4, s5, ⟨rfl, s6.2.1, s6.2.2⟩, fun k hk => ?_⟩
        rw [or_bit (by omega)]
        exact s7 k hk
      have tf' : tkF (up (up C2 5 6 v) 5 10 1) C4 (up R2 131 10 v) (up R3 131 10 v) := by
        refine ⟨tf.1, tf.2.1, fun z hz => ?_, fun j hj => ?_⟩
        · funext j
          unfold up
          rw [tf.2.2.1 z hz]
        · rw [up_ne (by decide), up_ne (by decide)]
          exact tf.2.2.2 j hj
      refine ⟨C4, up R3 131 10 v, fun e C0 he => ?_, fC0_t fc2 (fC0_t (fC0_u (by omega)) (fC0_t (fC0_u (by omega)) (fC0_tk tf))), fR0_t (fR0_t fr2 (fR0_tk tf)) (fR0_u (by omega)), Or.inr (Or.inr ⟨e72_4 kc (Or.inr rfl) (fun d R0 => ?_) d0, nb, m, T ||| 2 ^ 4, RTk_hi (by decide) T4, RX_tk tf' X3, ?_, or_19 h19 (by decide), by omega⟩)⟩
      · obtain ⟨e', rfl⟩ : ∃ e', e = e' + 4 := ⟨e - 4, by omega⟩
        refine ⟨some (0, 4), none, none, ?_⟩
        rw [at91 e' C0, b5 R3 p2 e' C0, cK0]
        exact tail e' C0 R3 v
      · rw [cl d R0, b4 (d + 8) R0, cK0, pR0, h79_70, if_pos (by decide)]
        simp only [mc3]
        rw [b3, e67_4 (d + 9) R0, cK9, pRv, h79_90, p1 (d + 7) R0, cK9, pRv, h79_97]
      · rw [up_ne (by decide), tf.2.2.2 14 (by decide)]
        exact q14
    · refine ⟨flS C2 f, up (wrgS R2 f) 131 10 1, fun e C0 he => ?_, fC0_t fc2 fC0_fl, fR0_t (fR0_t fr2 fR0_wr) (fR0_u (by omega)), Or.inl ⟨e72_4 kc (Or.inl rfl) (fun d R0 => ?_) d0, FT_u (by decide) (FT_0 T2 hf), ok20_fl ok2⟩⟩
      · obtain ⟨e', rfl⟩ : ∃ e', e = e' + 4 := ⟨e - 4, by omega⟩
        refine ⟨some (0, 4), none, none, ?_⟩
        rw [at91 e' C0, r4 e' C0, cK0]
        exact tail e' C0 _ 1
      · rw [cl d R0, c4 (d + 8) R0, cK0, pR0, h79_70, if_neg (by decide)]
theorem e66_5 (d : Nat) (hb : C 5 11 = 0 ∨ C 5 11 = 1) : dcl xs n (d + 1) 66 [(2, 5), (2, (-7))] C (0, C 5 11) C := by
  intro R0
  have hr : ret01 66 (C 5 11) = true := by
    obtain z | z := hb <;> (rw [z]; rfl)
  rw [n66, h66_0, if_pos (show (okK0 (-7) && okK0 (-6)) = true from rfl), if_pos (show ¬ (-7 : Int) = -6 by decide), if_pos (show (okK0 (-7) && okK0 (-7)) = true from rfl), if_neg (show ¬ ¬ (-7 : Int) = -7 from fun z => z rfl)]
  simp only [mc5]
  rw [h66_32, if_pos hr]
theorem e67_5 (d : Nat) {v : Int} : dcl xs n (d + 1) 67 [(2, 5), (2, (-7)), (0, v)] C (9, 0) (up (up C 5 7 v) 5 11 1) := by
  intro R0
  rw [n67, h67_0, if_pos (show (okK0 (-7) && okK0 (-6)) = true from rfl), if_pos (show ¬ (-7 : Int) = -6 by decide), if_pos (show (okK0 (-7) && okK0 (-7)) = true from rfl), if_neg (show ¬ ¬ (-7 : Int) = -7 from fun z => z rfl), h67_50]
  simp only [uc5]
theorem e72_5 {b : Int} {C1 : Sto} (h : C 3 4 = -7) (hb : b = 0 ∨ b = 1) (c : ∀ d : Nat, dcl xs n (d + 11) 79 [(2, 2), (2, (-7))] C (0, b) C1) : ∀ d : Nat, dcl xs n (d + 12) 72 [(2, 2)] C (0, b) C1 := by
  intro d R0
  have hr : ret01 72 b = true := by
    obtain z | z := hb <;> (rw [z]; rfl)
  have s : kSw ((5 : Nat) : Int) = 6 := rfl
  rw [e72 d (k := 5) (by decide) h R0, h72_13, if_pos (inb_t (by decide) (by decide)), s, if_neg (by decide), if_neg (by decide), if_neg (by decide), if_neg (by decide), if_neg (by decide), if_pos rfl]
  simp only [mc3]
  rw [h, c d R0, cK0, pR0, h72_91, if_pos hr]
theorem BO_set5 (hT : RTk N C R) (X : RX nb m i T C R) (hk : R 129 19 = 0) (hv : R 129 20 = ((5 : Nat) : Int)) (h14 : R 129 14 = (T : Int)) (h19 : T < 524288) : BO xs n d0 N i C R := by
  have kc : C 3 4 = -7 := e72w (w := 5) (by decide) hT hk hv
  have ok := X.2.2.2.choose_spec.2.2.1
  have tl : C 5 11 = bB (T.testBit 5 = true) := X.2.2.1.2.2.2.2.2.1.2.1
  have tb : C 5 11 = 0 ∨ C 5 11 = 1 := by
    rw [tl]
    by_cases z : T.testBit 5 = true
    · exact Or.inr (bB_t z)
    · exact Or.inl (bB_f z)
  have at48 : ∀ (d : Nat) (R0 : Sto), den (d + 11) 79 [(2, 2), (2, (-7))] (Sg xs n (mix C R0)) = Rn (d + 10) 79 48 [some (2, 2), some (2, (-7)), some (0, 0), some (0, 100)] [(0, C 5 11)] (Sg xs n (mix C R0)) := by
    intro d R0
    rw [n79, h79_0, if_pos (show (okK0 (-7) && okK0 (-6)) = true from rfl), if_pos (show ¬ (-7 : Int) = -6 by decide), h79_12, if_pos (show (okK0 (-7) && okK0 (-6)) = true from rfl), if_pos (show ¬ (-7 : Int) = -6 by decide), if_pos (show (okK0 (-7) && okK0 (-7)) = true from rfl), if_neg (show ¬ ¬ (-7 : Int) = -7 from fun z => z rfl), h79_39, e66_5 (d + 9) tb R0, cK0, pR0]
  by_cases bt : T.testBit 5 = true
  · refine BO_f (f := 3) hT ok (by decide) (e72_5 kc (Or.inl rfl) (fun d R0 => ?_)) (fun e C0 => r205told (w := 5) (by decide) X.1.1 hk hv h14 h19 bt e C0)
    rw [at48 d R0, tl, bB_t bt, h79_48, if_neg (by decide), e70 (d + 9) 3 R0, cK0, pR0, h79_56, if_pos (show ret01 79 0 = true from rfl)]
  · obtain ⟨C2, R2, t1, t2, T2, X2, q14, fc2, fr2, le2, z2⟩ := BEG (xs := xs) (n := n) (w := 5) (by decide) hT X hk hv h14 h19 (by omega) (fun _ => bt)
    have ok2 := X2.2.2.2.choose_spec.2.2.1
    have x1 := X2.1.1
    have at91 : ∀ (e : Nat) (C0 : Sto), den (e + 5) 205 [(2, 129)] (Sg xs n (mix C0 R)) = cK (den (e + 4) 197 [(2, 129), (0, 0), (0, 100)] (Sg xs n (mix C0 R2))) (fun v s1 => Rn (e + 4) 205 304 [some (2, 129), some (0, 5), none, none] (pushR v [(0, 4), (2, 129)]) s1) := by
      intro e C0
      rw [t2 e C0, h205_91, if_neg (by decide), if_neg (by decide), if_neg (by decide), if_neg (by decide), if_neg (by decide), if_pos (show ((5 : Nat) : Int) = 5 from rfl)]
      rfl
    have cl : ∀ (d : Nat) (R0 : Sto), den (d + 11) 79 [(2, 2), (2, (-7))] (Sg xs n (mix C R0)) = cK (den (d + 10) 74 [(2, 2), (0, 0), (0, 100)] (Sg xs n (mix C2 R0))) (fun v s1 => Rn (d + 10) 79 70 [some (2, 2), some (2, (-7)), some (0, 0), some (0, 100)] (pushR v []) s1) := by
      intro d R0
      rw [at48 d R0, tl, bB_f bt, h79_48, if_pos rfl, t1 (d + 7) R0, cK9, pRv, h79_64]
    have tail : ∀ (e : Nat) (C0 F : Sto) (v : Int), Rn (e + 4) 205 304 [some (2, 129), some (0, 5), none, none] [(0, v), (0, 4), (2, 129)] (Sg xs n (mix C0 F)) = Rn (e + 4) 205 329 [some (2, 129), some (0, 5), none, none] [] (Sg xs n (mix C0 (up F 131 11 v))) := by
      intro e C0 F v
      have e3 := r201 (xs := xs) (n := n) (R := F) (e + 3) (k := 4) (v := v) (by decide) (by decide) C0
      rw [show (7 : Int) + 4 = 11 from rfl] at e3
      rw [h205_304, e3, cK9, pRv, h205_307]
    obtain ⟨v, b1, b2, b3, _, b4, b5⟩ | ⟨f, hf, c4, r4⟩ := NUM (xs := xs) (n := n) (lo := 0) (hi := 100) T2 x1 (by decide)
    · have T3 : RTk N (up (up C2 5 7 v) 5 11 1) R2 := RTk_c (by funext j; rw [up_ne (by decide), up_ne (by decide)]) (by funext j; rw [up_ne (by decide), up_ne (by decide)]) rfl (fun _ _ _ => rfl) T2
      obtain ⟨C4, R3, p1, p2, T4, tf, _, le4⟩ := tok (xs := xs) (n := n) T3
      have c33 : up (up C2 5 7 v) 5 11 1 3 3 = C2 3 3 := by rw [up_ne (by decide), up_ne (by decide)]
      have X3 : RX nb m i (T ||| 2 ^ 5) (up (up C2 5 7 v) 5 11 1) (up R2 131 11 v) := by
        refine RX_u (T := T) ⟨rfl, by decide, by decide⟩ X2 ?_ (fun y hy => by funext j; rw [up_ne hy, up_ne hy])
        obtain ⟨⟨K, s1, s1', s1''⟩, s2, s3, s4, s5, s6, s7⟩ := X2.2.2.1
        have cu : ∀ j : Int, ¬ j = 7 → ¬ j = 11 → up (up C2 5 7 v) 5 11 1 5 j = C2 5 j := fun j h1 h2 => by rw [up_ni h2, up_ni h1]
        have ru : ∀ j : Int, ¬ j = 11 → up R2 131 11 v 131 j = R2 131 j := fun j h1 => up_ni h1
        have uf : up (up C2 5 7 v) 5 11 1 5 7 = v := by rw [up_ni (by decide), up_at]
        have ut : up (up C2 5 7 v) 5 11 1 5 11 = bB ((T ||| 2 ^ 5).testBit 5 = true) := by rw [up_at, bB_t or_bit1]
        have ur : up R2 131 11 v 131 11 = v := up_at
        unfold DS
        rw [show up (up C2 5 7 v) 5 11 1 22 = C2 22 by funext j; rw [up_ne (by decide), up_ne (by decide)], show up (up C2 5 7 v) 5 11 1 23 = C2 23 by funext j; rw [up_ne (by decide), up_ne (by decide)], up_ne (show ¬ (129 : Int) = 131 by decide), uf, ut, ur, cu 5 (by decide) (by decide), cu 9 (by decide) (by decide), ru 9 (by decide), cu 6 (by decide) (by decide), cu 8 (by decide) (by decide), cu 10 (by decide) (by decide), cu 12 (by decide) (by decide), ru 10 (by decide), ru 12 (by decide), or_bit (show ¬ 5 = 4 by decide), or_bit (show ¬ 5 = 6 by decide)]
        refine ⟨⟨K, s1, s1', s1''⟩, s2, ⟨rfl, b1, b2⟩, s4, s5, ⟨s6.1, rfl, s6.2.2⟩, fun k hk => ?_⟩
        rw [or_bit (by omega)]
        exact s7 k hk
      have tf' : tkF (up (up C2 5 7 v) 5 11 1) C4 (up R2 131 11 v) (up R3 131 11 v) := by
        refine ⟨tf.1, tf.2.1, fun z hz => ?_, fun j hj => ?_⟩
        · funext j
          unfold up
          rw [tf.2.2.1 z hz]
        · rw [up_ne (by decide), up_ne (by decide)]
          exact tf.2.2.2 j hj
      refine ⟨C4, up R3 131 11 v, fun e C0 he => ?_, fC0_t fc2 (fC0_t (fC0_u (by omega)) (fC0_t (fC0_u (by omega)) (fC0_tk tf))), fR0_t (fR0_t fr2 (fR0_tk tf)) (fR0_u (by omega)), Or.inr (Or.inr ⟨e72_5 kc (Or.inr rfl) (fun d R0 => ?_) d0, nb, m, T ||| 2 ^ 5, RTk_hi (by decide) T4, RX_tk tf' X3, ?_, or_19 h19 (by decide), by omega⟩)⟩
      · obtain ⟨e', rfl⟩ : ∃ e', e = e' + 4 := ⟨e - 4, by omega⟩
        refine ⟨some (0, 5), none, none, ?_⟩
        rw [at91 e' C0, b5 R3 p2 e' C0, cK0]
        exact tail e' C0 R3 v
      · rw [cl d R0, b4 (d + 8) R0, cK0, pR0, h79_70, if_pos (by decide)]
        simp only [mc3]
        rw [b3, e67_5 (d + 9) R0, cK9, pRv, h79_90, p1 (d + 7) R0, cK9, pRv, h79_97]
      · rw [up_ne (by decide), tf.2.2.2 14 (by decide)]
        exact q14
    · refine ⟨flS C2 f, up (wrgS R2 f) 131 11 0, fun e C0 he => ?_, fC0_t fc2 fC0_fl, fR0_t (fR0_t fr2 fR0_wr) (fR0_u (by omega)), Or.inl ⟨e72_5 kc (Or.inl rfl) (fun d R0 => ?_) d0, FT_u (by decide) (FT_0 T2 hf), ok20_fl ok2⟩⟩
      · obtain ⟨e', rfl⟩ : ∃ e', e = e' + 4 := ⟨e - 4, by omega⟩
        refine ⟨some (0, 5), none, none, ?_⟩
        rw [at91 e' C0, r4 e' C0, cK0]
        exact tail e' C0 _ 0
      · rw [cl d R0, c4 (d + 8) R0, cK0, pR0, h79_70, if_neg (by decide)]
theorem e66_6 (d : Nat) (hb : C 5 12 = 0 ∨ C 5 12 = 1) : dcl xs n (d + 1) 66 [(2, 5), (2, (-8))] C (0, C 5 12) C := by
  intro R0
  have hr : ret01 66 (C 5 12) = true := by
    obtain z | z := hb <;> (rw [z]; rfl)
  rw [n66, h66_0, if_pos (show (okK0 (-8) && okK0 (-6)) = true from rfl), if_pos (show ¬ (-8 : Int) = -6 by decide), if_pos (show (okK0 (-8) && okK0 (-7)) = true from rfl), if_pos (show ¬ (-8 : Int) = -7 by decide)]
  simp only [mc5]
  rw [h66_32, if_pos hr]
theorem e67_6 (d : Nat) {v : Int} : dcl xs n (d + 1) 67 [(2, 5), (2, (-8)), (0, v)] C (9, 0) (up (up C 5 8 v) 5 12 1) := by
  intro R0
  rw [n67, h67_0, if_pos (show (okK0 (-8) && okK0 (-6)) = true from rfl), if_pos (show ¬ (-8 : Int) = -6 by decide), if_pos (show (okK0 (-8) && okK0 (-7)) = true from rfl), if_pos (show ¬ (-8 : Int) = -7 by decide), h67_50]
  simp only [uc5]
theorem e72_6 {b : Int} {C1 : Sto} (h : C 3 4 = -8) (hb : b = 0 ∨ b = 1) (c : ∀ d : Nat, dcl xs n (d + 11) 79 [(2, 2), (2, (-8))] C (0, b) C1) : ∀ d : Nat, dcl xs n (d + 12) 72 [(2, 2)] C (0, b) C1 := by
  intro d R0
  have hr : ret01 72 b = true := by
    obtain z | z := hb <;> (rw [z]; rfl)
  have s : kSw ((6 : Nat) : Int) = 7 := rfl
  rw [e72 d (k := 6) (by decide) h R0, h72_13, if_pos (inb_t (by decide) (by decide)), s, if_neg (by decide), if_neg (by decide), if_neg (by decide), if_neg (by decide), if_neg (by decide), if_neg (by decide), if_pos rfl]
  simp only [mc3]
  rw [h, c d R0, cK0, pR0, h72_91, if_pos hr]
theorem BO_set6 (hT : RTk N C R) (X : RX nb m i T C R) (hk : R 129 19 = 0) (hv : R 129 20 = ((6 : Nat) : Int)) (h14 : R 129 14 = (T : Int)) (h19 : T < 524288) : BO xs n d0 N i C R := by
  have kc : C 3 4 = -8 := e72w (w := 6) (by decide) hT hk hv
  have ok := X.2.2.2.choose_spec.2.2.1
  have tl : C 5 12 = bB (T.testBit 6 = true) := X.2.2.1.2.2.2.2.2.1.2.2
  have tb : C 5 12 = 0 ∨ C 5 12 = 1 := by
    rw [tl]
    by_cases z : T.testBit 6 = true
    · exact Or.inr (bB_t z)
    · exact Or.inl (bB_f z)
  have at48 : ∀ (d : Nat) (R0 : Sto), den (d + 11) 79 [(2, 2), (2, (-8))] (Sg xs n (mix C R0)) = Rn (d + 10) 79 48 [some (2, 2), some (2, (-8)), some (0, 0), some (0, 99999)] [(0, C 5 12)] (Sg xs n (mix C R0)) := by
    intro d R0
    rw [n79, h79_0, if_pos (show (okK0 (-8) && okK0 (-6)) = true from rfl), if_pos (show ¬ (-8 : Int) = -6 by decide), h79_12, if_pos (show (okK0 (-8) && okK0 (-6)) = true from rfl), if_pos (show ¬ (-8 : Int) = -6 by decide), if_pos (show (okK0 (-8) && okK0 (-7)) = true from rfl), if_pos (show ¬ (-8 : Int) = -7 by decide), h79_39, e66_6 (d + 9) tb R0, cK0, pR0]
  by_cases bt : T.testBit 6 = true
  · refine BO_f (f := 3) hT ok (by decide) (e72_6 kc (Or.inl rfl) (fun d R0 => ?_)) (fun e C0 => r205told (w := 6) (by decide) X.1.1 hk hv h14 h19 bt e C0)
    rw [at48 d R0, tl, bB_t bt, h79_48, if_neg (by decide), e70 (d + 9) 3 R0, cK0, pR0, h79_56, if_pos (show ret01 79 0 = true from rfl)]
  · obtain ⟨C2, R2, t1, t2, T2, X2, q14, fc2, fr2, le2, z2⟩ := BEG (xs := xs) (n := n) (w := 6) (by decide) hT X hk hv h14 h19 (by omega) (fun _ => bt)
    have ok2 := X2.2.2.2.choose_spec.2.2.1
    have x1 := X2.1.1
    have at91 : ∀ (e : Nat) (C0 : Sto), den (e + 5) 205 [(2, 129)] (Sg xs n (mix C0 R)) = cK (den (e + 4) 197 [(2, 129), (0, 0), (0, 99999)] (Sg xs n (mix C0 R2))) (fun v s1 => Rn (e + 4) 205 319 [some (2, 129), some (0, 6), none, none] (pushR v [(0, 5), (2, 129)]) s1) := by
      intro e C0
      rw [t2 e C0, h205_91, if_neg (by decide), if_neg (by decide), if_neg (by decide), if_neg (by decide), if_neg (by decide), if_neg (by decide), if_pos (show ((6 : Nat) : Int) = 6 from rfl)]
      rfl
    have cl : ∀ (d : Nat) (R0 : Sto), den (d + 11) 79 [(2, 2), (2, (-8))] (Sg xs n (mix C R0)) = cK (den (d + 10) 74 [(2, 2), (0, 0), (0, 99999)] (Sg xs n (mix C2 R0))) (fun v s1 => Rn (d + 10) 79 70 [some (2, 2), some (2, (-8)), some (0, 0), some (0, 99999)] (pushR v []) s1) := by
      intro d R0
      rw [at48 d R0, tl, bB_f bt, h79_48, if_pos rfl, t1 (d + 7) R0, cK9, pRv, h79_64]
    have tail : ∀ (e : Nat) (C0 F : Sto) (v : Int), Rn (e + 4) 205 319 [some (2, 129), some (0, 6), none, none] [(0, v), (0, 5), (2, 129)] (Sg xs n (mix C0 F)) = Rn (e + 4) 205 329 [some (2, 129), some (0, 6), none, none] [] (Sg xs n (mix C0 (up F 131 12 v))) := by
      intro e C0 F v
      have e3 := r201 (xs := xs) (n := n) (R := F) (e + 3) (k := 5) (v := v) (by decide) (by decide) C0
      rw [show (7 : Int) + 5 = 12 from rfl] at e3
      rw [h205_319, e3, cK9, pRv, h205_322]
    obtain ⟨v, b1, b2, b3, _, b4, b5⟩ | ⟨f, hf, c4, r4⟩ := NUM (xs := xs) (n := n) (lo := 0) (hi := 99999) T2 x1 (by decide)
    · have T3 : RTk N (up (up C2 5 8 v) 5 12 1) R2 := RTk_c (by funext j; rw [up_ne (by decide), up_ne (by decide)]) (by funext j; rw [up_ne (by decide), up_ne (by decide)]) rfl (fun _ _ _ => rfl) T2
      obtain ⟨C4, R3, p1, p2, T4, tf, _, le4⟩ := tok (xs := xs) (n := n) T3
      have c33 : up (up C2 5 8 v) 5 12 1 3 3 = C2 3 3 := by rw [up_ne (by decide), up_ne (by decide)]
      have X3 : RX nb m i (T ||| 2 ^ 6) (up (up C2 5 8 v) 5 12 1) (up R2 131 12 v) := by
        refine RX_u (T := T) ⟨rfl, by decide, by decide⟩ X2 ?_ (fun y hy => by funext j; rw [up_ne hy, up_ne hy])
        obtain ⟨⟨K, s1, s1', s1''⟩, s2, s3, s4, s5, s6, s7⟩ := X2.2.2.1
        have cu : ∀ j : Int, ¬ j = 8 → ¬ j = 12 → up (up C2 5 8 v) 5 12 1 5 j = C2 5 j := fun j h1 h2 => by rw [up_ni h2, up_ni h1]
        have ru : ∀ j : Int, ¬ j = 12 → up R2 131 12 v 131 j = R2 131 j := fun j h1 => up_ni h1
        have uf : up (up C2 5 8 v) 5 12 1 5 8 = v := by rw [up_ni (by decide), up_at]
        have ut : up (up C2 5 8 v) 5 12 1 5 12 = bB ((T ||| 2 ^ 6).testBit 6 = true) := by rw [up_at, bB_t or_bit1]
        have ur : up R2 131 12 v 131 12 = v := up_at
        unfold DS
        rw [show up (up C2 5 8 v) 5 12 1 22 = C2 22 by funext j; rw [up_ne (by decide), up_ne (by decide)], show up (up C2 5 8 v) 5 12 1 23 = C2 23 by funext j; rw [up_ne (by decide), up_ne (by decide)], up_ne (show ¬ (129 : Int) = 131 by decide), uf, ut, ur, cu 5 (by decide) (by decide), cu 9 (by decide) (by decide), ru 9 (by decide), cu 6 (by decide) (by decide), cu 7 (by decide) (by decide), cu 10 (by decide) (by decide), cu 11 (by decide) (by decide), ru 10 (by decide), ru 11 (by decide), or_bit (show ¬ 6 = 4 by decide), or_bit (show ¬ 6 = 5 by decide)]
        refine ⟨⟨K, s1, s1', s1''⟩, s2, s3, ⟨rfl, b1, b2⟩, s5, ⟨s6.1, s6.2.1, rfl⟩, fun k hk => ?_⟩
        rw [or_bit (by omega)]
        exact s7 k hk
      have tf' : tkF (up (up C2 5 8 v) 5 12 1) C4 (up R2 131 12 v) (up R3 131 12 v) := by
        refine ⟨tf.1, tf.2.1, fun z hz => ?_, fun j hj => ?_⟩
        · funext j
          unfold up
          rw [tf.2.2.1 z hz]
        · rw [up_ne (by decide), up_ne (by decide)]
          exact tf.2.2.2 j hj
      refine ⟨C4, up R3 131 12 v, fun e C0 he => ?_, fC0_t fc2 (fC0_t (fC0_u (by omega)) (fC0_t (fC0_u (by omega)) (fC0_tk tf))), fR0_t (fR0_t fr2 (fR0_tk tf)) (fR0_u (by omega)), Or.inr (Or.inr ⟨e72_6 kc (Or.inr rfl) (fun d R0 => ?_) d0, nb, m, T ||| 2 ^ 6, RTk_hi (by decide) T4, RX_tk tf' X3, ?_, or_19 h19 (by decide), by omega⟩)⟩
      · obtain ⟨e', rfl⟩ : ∃ e', e = e' + 4 := ⟨e - 4, by omega⟩
        refine ⟨some (0, 6), none, none, ?_⟩
        rw [at91 e' C0, b5 R3 p2 e' C0, cK0]
        exact tail e' C0 R3 v
      · rw [cl d R0, b4 (d + 8) R0, cK0, pR0, h79_70, if_pos (by decide)]
        simp only [mc3]
        rw [b3, e67_6 (d + 9) R0, cK9, pRv, h79_90, p1 (d + 7) R0, cK9, pRv, h79_97]
      · rw [up_ne (by decide), tf.2.2.2 14 (by decide)]
        exact q14
    · refine ⟨flS C2 f, up (wrgS R2 f) 131 12 0, fun e C0 he => ?_, fC0_t fc2 fC0_fl, fR0_t (fR0_t fr2 fR0_wr) (fR0_u (by omega)), Or.inl ⟨e72_6 kc (Or.inl rfl) (fun d R0 => ?_) d0, FT_u (by decide) (FT_0 T2 hf), ok20_fl ok2⟩⟩
      · obtain ⟨e', rfl⟩ : ∃ e', e = e' + 4 := ⟨e - 4, by omega⟩
        refine ⟨some (0, 6), none, none, ?_⟩
        rw [at91 e' C0, r4 e' C0, cK0]
        exact tail e' C0 _ 0
      · rw [cl d R0, c4 (d + 8) R0, cK0, pR0, h79_70, if_neg (by decide)]
end S99x
