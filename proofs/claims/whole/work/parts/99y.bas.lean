/-! Text: lines of bases and of edges -/
theorem nxE_c {F G F' G' : Int → Int} {b : Int} : ∀ m : Nat, (∀ k : Nat, k < m → F' k = F k ∧ G' k = G k) → nxE F' G' b m = nxE F G b m := by
  intro m
  induction m with
  | zero => intro _; rfl
  | succ m ih =>
    intro h
    rw [show nxE F' G' b (m + 1) = if F' m = b then nxE F' G' b m ||| 2 ^ (G' m).toNat else nxE F' G' b m from rfl, show nxE F G b (m + 1) = if F m = b then nxE F G b m ||| 2 ^ (G m).toNat else nxE F G b m from rfl, ih (fun k hk => h k (by omega)), (h m (by omega)).1, (h m (by omega)).2]
theorem cntE_c {f g : Int → Int} {v : Int} : ∀ m : Nat, (∀ k : Nat, k < m → f k = g k) → cntE f v m = cntE g v m := by
  intro m
  induction m with
  | zero => intro _; rfl
  | succ m ih =>
    intro h
    rw [show cntE f v (m + 1) = cntE f v m + (if f (m : Int) = v then 1 else 0) from rfl, show cntE g v (m + 1) = cntE g v m + (if g (m : Int) = v then 1 else 0) from rfl, ih (fun k hk => h k (by omega)), h m (by omega)]
theorem cnt_find {f : Int → Int} {v : Int} : ∀ (m : Nat) (i : Int), 0 ≤ i → i < cntE f v m → ∃ e : Nat, e < m ∧ f e = v ∧ cntE f v e = i := by
  intro m
  induction m with
  | zero =>
    intro i h0 h1
    have : cntE f v 0 = 0 := rfl
    omega
  | succ m ih =>
    intro i h0 h1
    rw [show cntE f v (m + 1) = cntE f v m + (if f (m : Int) = v then 1 else 0) from rfl] at h1
    by_cases q : i < cntE f v m
    · obtain ⟨e, a, b, c⟩ := ih i h0 q
      exact ⟨e, by omega, b, c⟩
    · by_cases z : f (m : Int) = v
      · rw [if_pos z] at h1
        exact ⟨m, by omega, z, by omega⟩
      · rw [if_neg z] at h1
        omega
theorem nth_e {f g : Int → Int} {v : Int} {M e : Nat} (h : e < M) (hv : f e = v) : nthE f g v M M (cntE f v e) = g e := by
  have := nth_at (f := f) (g := g) (v := v) (m := M) M (Nat.le_refl M) e (by omega) h hv
  rw [Nat.sub_self, show cntE f v 0 = 0 from rfl, Int.sub_zero] at this
  exact this
section S99y
variable {xs : Int → Int} {n : Int × Int} {C C' R R' : Sto} {N : Int} {nb m i T d0 : Nat}
theorem r206 (d f t : Nat) (h8 : R 131 8 = (m : Int)) (hm : m ≤ 16) (hT : ∀ k : Nat, k < m → 0 ≤ R 137 (16 + (k : Int))) : drf xs n (d + 2) 206 [(2, 129), (0, (f : Int)), (0, (t : Int))] R (0, bB ((nxE (fun z => R 136 (16 + z)) (fun z => R 137 (16 + z)) f m).testBit t = true)) R := by
  intro C0
  have e1 := r200 (xs := xs) (n := n) (R := R) d (k := 1) (by decide) (by decide) C0
  rw [show (7 : Int) + 1 = 8 from rfl, h8] at e1
  have P := nxE_t (F := fun z => R 136 (16 + z)) (T := fun z => R 137 (16 + z)) (b := (f : Int)) (m := m) (c := t) hT m (Nat.le_refl m)
  have key : ∀ r k : Nat, k + r = m → (∀ e : Nat, e < k → ¬ (R 136 (16 + (e : Int)) = f ∧ R 137 (16 + (e : Int)) = t)) → Rn (d + 1) 206 3 [some (2, 129), some (0, (f : Int)), some (0, (t : Int)), some (0, 16 + (k : Int))] [] (Sg xs n (mix C0 R)) = some ((0, bB ((nxE (fun z => R 136 (16 + z)) (fun z => R 137 (16 + z)) f m).testBit t = true)), Sg xs n (mix C0 R)) := by
    intro r
    induction r with
    | zero =>
      intro k hk hn
      rw [h206_3, e1, cK0]
      show Rn (d + 1) 206 11 [some (2, 129), some (0, (f : Int)), some (0, (t : Int)), some (0, 16 + (k : Int))] [(0, (m : Int)), (0, 16), (0, 16 + (k : Int))] (Sg xs n (mix C0 R)) = _
      rw [h206_11, w32_idP (by omega) (by omega), if_pos (by omega), bB_f (fun z => by obtain ⟨e, a1, a2, a3⟩ := P.mp z; exact hn e (by omega) ⟨a2, a3⟩)]
    | succ r ih =>
      intro k hk hn
      have nxt : ¬ (R 136 (16 + (k : Int)) = f ∧ R 137 (16 + (k : Int)) = t) → Rn (d + 1) 206 37 [some (2, 129), some (0, (f : Int)), some (0, (t : Int)), some (0, 16 + (k : Int))] [] (Sg xs n (mix C0 R)) = some ((0, bB ((nxE (fun z => R 136 (16 + z)) (fun z => R 137 (16 + z)) f m).testBit t = true)), Sg xs n (mix C0 R)) := by
        intro q
        rw [h206_37, w32_idP (by omega) (by omega), show 16 + (k : Int) + 1 = 16 + ((k + 1 : Nat) : Int) by omega]
        refine ih (k + 1) (by omega) (fun e he => ?_)
        by_cases z : e = k
        · rw [z]; exact q
        · exact hn e (by omega)
      rw [h206_3, e1, cK0]
      show Rn (d + 1) 206 11 [some (2, 129), some (0, (f : Int)), some (0, (t : Int)), some (0, 16 + (k : Int))] [(0, (m : Int)), (0, 16), (0, 16 + (k : Int))] (Sg xs n (mix C0 R)) = _
      rw [h206_11, w32_idP (by omega) (by omega), if_neg (by omega), if_pos (inb_t (by omega) (by omega))]
      simp only [mr136, mr137]
      by_cases q : R 136 (16 + (k : Int)) = f
      · rw [if_neg (fun z => z q), if_pos (inb_t (by omega) (by omega))]
        by_cases u : R 137 (16 + (k : Int)) = t
        · rw [if_neg (fun z => z u), bB_t (P.mpr ⟨k, by omega, q, u⟩)]
        · rw [if_pos u]
          exact nxt (fun z => u z.2)
      · rw [if_pos q]
        exact nxt (fun z => q z.1)
  rw [n206, h206_0]
  exact key m 0 (by omega) (fun e he => by omega)
/-- is there that edge: both see it alike -/
theorem HAS (G : DG nb m C R) {f t : Nat} (hf : f < nb) : C 14 f = ((nxE (C 10) (C 11) f m : Nat) : Int) ∧ nxE (C 10) (C 11) f m < 256 ∧ (∀ d : Nat, drf xs n (d + 2) 206 [(2, 129), (0, (f : Int)), (0, (t : Int))] R (0, bB ((nxE (C 10) (C 11) f m).testBit t = true)) R) := by
  obtain ⟨⟨g1, g2, g3, g4, g5, g6⟩, gb, ge, gc⟩ := G
  have ec : nxE (fun z => R 136 (16 + z)) (fun z => R 137 (16 + z)) f m = nxE (C 10) (C 11) f m := nxE_c m (fun k hk => ⟨(ge k hk).1.1.symm, (ge k hk).2.1.symm⟩)
  refine ⟨(gc f hf).2.2.1, ?_, fun d => ?_⟩
  · exact nxE_lt (n := 8) (m := m) (fun k hk => by have := (ge k hk).2; omega) (by decide) m (Nat.le_refl m)
  · have := r206 (xs := xs) (n := n) (R := R) d f t g5 g6 (fun k hk => by have := (ge k hk).2; omega)
    rw [ec] at this
    exact this
theorem e72_3 {b : Int} {C1 : Sto} (h : C 3 4 = -5) (hb : b = 0 ∨ b = 1) (c : ∀ d : Nat, dcl xs n (d + 11) 78 [(2, 2)] C (0, b) C1) : ∀ d : Nat, dcl xs n (d + 12) 72 [(2, 2)] C (0, b) C1 := by
  intro d R0
  have hr : ret01 72 b = true := by
    obtain z | z := hb <;> (rw [z]; rfl)
  have s : kSw ((3 : Nat) : Int) = 4 := rfl
  rw [e72 d (k := 3) (by decide) h R0, h72_13, if_pos (inb_t (by decide) (by decide)), s, if_neg (by decide), if_neg (by decide), if_neg (by decide), if_pos rfl, c d R0, cK0, pR0, h72_79, if_pos hr]
theorem e72_1 {b : Int} {C1 : Sto} (h : C 3 4 = -3) (hb : b = 0 ∨ b = 1) (c : ∀ d : Nat, dcl xs n (d + 11) 76 [(2, 2)] C (0, b) C1) : ∀ d : Nat, dcl xs n (d + 12) 72 [(2, 2)] C (0, b) C1 := by
  intro d R0
  have hr : ret01 72 b = true := by
    obtain z | z := hb <;> (rw [z]; rfl)
  have s : kSw ((1 : Nat) : Int) = 2 := rfl
  rw [e72 d (k := 1) (by decide) h R0, h72_13, if_pos (inb_t (by decide) (by decide)), s, if_neg (by decide), if_pos rfl, c d R0, cK0, pR0, h72_69, if_pos hr]
theorem DG_base {b v : Nat} (G : DG nb m C R) (hb : b < nb) (hv : v < nb) (ed : ∃ e : Nat, e < m ∧ C 11 e = b ∧ C 10 e = v) : DG nb m (up C 15 (b : Int) (v : Int)) (up R 135 (8 + (b : Int)) ((v : Int) + 1)) := by
  obtain ⟨ga, gb, ge, gc⟩ := G
  have cz : ∀ z : Int, ¬ z = 15 → up C 15 (b : Int) (v : Int) z = C z := fun z hz => by funext j; rw [up_ne hz]
  have rz : ∀ z : Int, ¬ z = 135 → up R 135 (8 + (b : Int)) ((v : Int) + 1) z = R z := fun z hz => by funext j; rw [up_ne hz]
  refine ⟨by rw [cz 9 (by decide), rz 131 (by decide)]; exact ga, fun k hk => ?_, by rw [cz 10 (by decide), cz 11 (by decide), rz 136 (by decide), rz 137 (by decide)]; exact ge, fun k hk => ?_⟩
  · rw [cz 6 (by decide), cz 7 (by decide), cz 8 (by decide), rz 132 (by decide), rz 133 (by decide), rz 134 (by decide)]
    have g := gb k hk
    refine ⟨g.1, g.2.1, g.2.2.1, ?_⟩
    by_cases q : k = b
    · rw [q, up_at, up_at]
      exact ⟨by omega, by omega, by omega⟩
    · rw [up_ni (by omega), up_ni (by omega)]
      exact g.2.2.2
  · rw [cz 10 (by decide), cz 11 (by decide), cz 12 (by decide), cz 13 (by decide), cz 14 (by decide), cz 16 (by decide)]
    have g := gc k hk
    refine ⟨g.1, g.2.1, g.2.2.1, g.2.2.2.1, ?_⟩
    by_cases q : k = b
    · rw [q, up_at]
      exact fun _ => ed
    · rw [up_ni (by omega)]
      exact g.2.2.2.2
theorem BO_base (hT : RTk N C R) (X : RX nb m i T C R) (hk : R 129 19 = 0) (hv : R 129 20 = ((3 : Nat) : Int)) (h14 : R 129 14 = (T : Int)) (h19 : T < 524288) : BO xs n d0 N i C R := by
  have kc : C 3 4 = -5 := e72w (w := 3) (by decide) hT hk hv
  have g3 : nb ≤ 8 := X.2.1.1.2.2.1
  obtain ⟨C2, R2, t1, t2, T2, X2, q14, fc2, fr2, le2, z2⟩ := BEG (xs := xs) (n := n) (w := 3) (by decide) hT X hk hv h14 h19 (by omega) (by omega)
  have ok2 := X2.2.2.2.choose_spec.2.2.1
  have x1 := X2.1.1
  have at91 : ∀ (C0 R1 : Sto), (∀ e : Nat, drf xs n (e + 20) 208 [(2, 129)] R2 (9, 0) R1) → ∀ e : Nat, 150 ≤ e → ∃ o1 o2 o3 : Option Vv, den (e + 1) 205 [(2, 129)] (Sg xs n (mix C0 R)) = Rn e 205 329 [some (2, 129), o1, o2, o3] [] (Sg xs n (mix C0 R1)) := by
    intro C0 R1 h e he
    obtain ⟨e', rfl⟩ : ∃ e', e = e' + 20 := ⟨e - 20, by omega⟩
    refine ⟨some (0, 3), none, none, ?_⟩
    rw [t2 (e' + 16) C0, h205_91, if_neg (by decide), if_neg (by decide), if_neg (by decide), if_pos (show ((3 : Nat) : Int) = 3 from rfl), h e' C0, cK9, pRv, h205_277]
    rfl
  have nop : ∀ (e : Nat) (C0 F : Sto) (l1 : Int), ¬ F 129 21 = 0 → Rn (e + 19) 208 29 [some (2, 129), some (0, l1), none] [] (Sg xs n (mix C0 F)) = some ((9, 0), Sg xs n (mix C0 F)) := by
    intro e C0 F l1 wf
    rw [h208_29, r196n (e + 18) wf C0, cK9, pRv, h208_33, r202n (e + 18) wf C0, cK0, pR0, h208_37]
    simp only [mr129]
    rw [if_pos wf, h208_59, r196n (e + 18) wf C0, cK9, pRv, h208_63]
    simp only [mr129]
    rw [if_pos wf, h208_82]
  obtain ⟨b, hb, c1, r1⟩ | ⟨f, hf, c1, r1⟩ := NB (xs := xs) (n := n) T2 X2
  · have b8 : b < 8 := by omega
    have gb2 := X2.2.1.2.1 b hb
    have i8 := inb_t (show 0 ≤ (b : Int) by omega) (show (b : Int) < 8 by omega)
    have i16 := inb_t (show 0 ≤ 8 + (b : Int) by omega) (show 8 + (b : Int) < 16 by omega)
    by_cases told : C2 15 b < 0
    · have r0 : R2 135 (8 + (b : Int)) = 0 := by omega
      obtain ⟨C3, R3, s1, s2, T3, X3, tf3, _, le3⟩ := tokX (xs := xs) (n := n) T2 X2
      have x3 := X3.1.1
      have ok3 := X3.2.2.2.choose_spec.2.2.1
      have fc3 := fC0_t fc2 (fC0_tk tf3)
      have fr3 := fR0_t fr2 (fR0_tk tf3)
      have cl : ∀ (d : Nat) (R0 : Sto), den (d + 11) 78 [(2, 2)] (Sg xs n (mix C R0)) = cK (den (d + 10) 75 [(2, 2)] (Sg xs n (mix C3 R0))) (fun v s1 => Rn (d + 10) 78 52 [some (2, 2), some (2, 9), some (0, (b : Int)), none] (pushR v []) s1) := by
        intro d R0
        rw [n78, h78_0, t1 (d + 7) R0, cK9, pRv, h78_15, c1 (d + 8) R0, cK0, pR0, h78_19, if_pos (by omega), if_pos i8]
        simp only [mc15]
        rw [if_pos told, s1 (d + 7) R0, cK9, pRv, h78_48]
      have rf : ∀ (e : Nat) (C0 : Sto), den (e + 20) 208 [(2, 129)] (Sg xs n (mix C0 R2)) = cK (den (e + 19) 202 [(2, 129)] (Sg xs n (mix C0 R3))) (fun v s1 => Rn (e + 19) 208 37 [some (2, 129), some (0, (b : Int)), none] (pushR v []) s1) := by
        intro e C0
        rw [n208, h208_0, r1 (e + 17) C0, cK0, pR0, h208_4]
        simp only [mr129, mr135]
        rw [if_neg (fun z => z x1), w32_idP (by omega) (by omega), if_pos i16, if_pos r0, h208_29, r196 (e + 18) x1 (s2 (e + 15)) C0, cK9, pRv, h208_33]
      obtain ⟨v, hv', c3, r3⟩ | ⟨f, hf, c3, r3⟩ := NB (xs := xs) (n := n) T3 X3
      · obtain ⟨h1, h2, h3⟩ := HAS (xs := xs) (n := n) X3.2.1 (f := v) (t := b) hv'
        have iv8 := inb_t (show 0 ≤ (v : Int) by omega) (show (v : Int) < 8 by omega)
        have cl2 : ∀ (d : Nat) (R0 : Sto), den (d + 11) 78 [(2, 2)] (Sg xs n (mix C R0)) = Rn (d + 10) 78 69 [some (2, 2), some (2, 9), some (0, (b : Int)), some (0, (v : Int))] [(0, bB ((nxE (C3 10) (C3 11) v m).testBit b = true))] (Sg xs n (mix C3 R0)) := by
          intro d R0
          rw [cl d R0, c3 (d + 8) R0, cK0, pR0, h78_52, if_pos (by omega), if_pos iv8]
          simp only [mc14]
          rw [h1, c181 (d + 9) _ b (by omega) (by omega), cK0, pR0]
        have rf2 : ∀ (e : Nat) (C0 : Sto), den (e + 20) 208 [(2, 129)] (Sg xs n (mix C0 R2)) = Rn (e + 19) 208 51 [some (2, 129), some (0, (b : Int)), some (0, (v : Int))] [(0, bB ((nxE (C3 10) (C3 11) v m).testBit b = true))] (Sg xs n (mix C0 R3)) := by
          intro e C0
          rw [rf e C0, r3 (e + 17) C0, cK0, pR0, h208_37]
          simp only [mr129]
          rw [if_neg (fun z => z x3), h3 (e + 17) C0, cK0, pR0]
        by_cases ed : (nxE (C3 10) (C3 11) v m).testBit b = true
        · have ed' := (nxE_t (F := C3 10) (T := C3 11) (b := (v : Int)) (m := m) (c := b) (fun k hk => (X3.2.1.2.2.1 k hk).2.2.1) m (Nat.le_refl m)).mp ed
          obtain ⟨ee, a1, a2, a3⟩ := ed'
          have G3 := DG_base X3.2.1 hb hv' ⟨ee, a1, a3, a2⟩
          have T4 : RTk N (up C3 15 (b : Int) (v : Int)) R3 := RTk_c (by funext j; rw [up_ne (by decide)]) (by funext j; rw [up_ne (by decide)]) rfl (fun _ _ _ => rfl) T3
          obtain ⟨C5, R4, p1, p2, T5, tf, _, le5⟩ := tok (xs := xs) (n := n) T4
          have c33 : up C3 15 (b : Int) (v : Int) 3 3 = C3 3 3 := up_ne (by decide)
          have cz : ∀ z : Int, ¬ z = 15 → up C3 15 (b : Int) (v : Int) z = C3 z := fun z hz => by funext j; rw [up_ne hz]
          have rz : ∀ z : Int, ¬ z = 135 → up R3 135 (8 + (b : Int)) ((v : Int) + 1) z = R3 z := fun z hz => by funext j; rw [up_ne hz]
          have X4 : RX nb m i T (up C3 15 (b : Int) (v : Int)) (up R3 135 (8 + (b : Int)) ((v : Int) + 1)) := by
            obtain ⟨⟨y1, y2, y3, y4, y5⟩, _, s, l⟩ := X3
            exact ⟨⟨by rw [rz 129 (by decide)]; exact y1, by rw [cz 2 (by decide)]; exact y2, by rw [cz 2 (by decide)]; exact y3, by rw [rz 129 (by decide)]; exact y4, by rw [rz 129 (by decide)]; exact y5⟩, G3, DS_c (cz 5 (by decide)) (cz 22 (by decide)) (cz 23 (by decide)) (fun j _ _ => by rw [rz 131 (by decide)]) (by rw [rz 129 (by decide)]) s, DL_c (by rw [cz 19 (by decide)]) (by rw [cz 19 (by decide)]) (fun z _ _ => cz z (by omega)) (fun z _ _ => rz z (by omega)) (by rw [rz 129 (by decide)]) (by rw [rz 131 (by decide)]) l⟩
          have tf' : tkF (up C3 15 (b : Int) (v : Int)) C5 (up R3 135 (8 + (b : Int)) ((v : Int) + 1)) (up R4 135 (8 + (b : Int)) ((v : Int) + 1)) := by
            refine ⟨tf.1, tf.2.1, fun z hz => ?_, fun j hj => ?_⟩
            · funext j
              unfold up
              rw [tf.2.2.1 z hz]
            · rw [up_ne (by decide), up_ne (by decide)]
              exact tf.2.2.2 j hj
          refine ⟨C5, up R4 135 (8 + (b : Int)) ((v : Int) + 1), fun e C0 he => at91 C0 _ (fun e C0 => ?_) e he, fC0_t fc3 (fC0_t (fC0_u (by omega)) (fC0_tk tf)), fR0_t (fR0_t fr3 (fR0_tk tf)) (fR0_u (by omega)), Or.inr (Or.inr ⟨e72_3 kc (Or.inr rfl) (fun d R0 => ?_) d0, nb, m, T ||| 2 ^ 3, RTk_hi (by decide) T5, RX_T (T := T) (fun k hk => or_bit (by omega)) (RX_tk tf' X4), ?_, or_19 h19 (by decide), by omega⟩)⟩
          · rw [rf2 e C0, bB_t ed, h208_51, if_pos (by decide), h208_59, r196 (e + 18) x3 (p2 (e + 15)) C0, cK9, pRv, h208_63]
            simp only [mr129, ur135]
            rw [tf.2.2.2 21 (by decide), if_neg (fun z => z x3), w32_idP (by omega) (by omega), if_pos i16, w32_idP (by omega) (by omega), h208_82]
          · rw [cl2 d R0, bB_t ed, h78_69, if_pos (by decide), if_pos i8, uc15, p1 (d + 7) R0, cK9, pRv, h78_92]
          · rw [up_ne (by decide), tf.2.2.2 14 (by decide), tf3.2.2.2 14 (by decide)]
            exact q14
        · have wf := wr_f (R := R3) (k := 5) (by decide)
          refine ⟨flS C3 5, wrgS R3 5, fun e C0 he => at91 C0 _ (fun e C0 => ?_) e he, fC0_t fc3 fC0_fl, fR0_t fr3 fR0_wr, Or.inl ⟨e72_3 kc (Or.inl rfl) (fun d R0 => ?_) d0, FT_0 T3 (by decide), ok20_fl ok3⟩⟩
          · rw [rf2 e C0, bB_f ed, h208_51, if_neg (fun z => z rfl), r193 (e + 18) x3 C0, cK9, pRv, h208_59, r196n (e + 18) wf C0, cK9, pRv, h208_63]
            simp only [mr129]
            rw [if_pos wf, h208_82]
          · rw [cl2 d R0, bB_f ed, h78_69, if_neg (fun z => z rfl), e70 (d + 9) 5 R0, cK0, pR0, h78_77, if_pos (show ret01 78 0 = true from rfl)]
      · have wf := wr_f (R := R3) hf
        refine ⟨flS C3 f, wrgS R3 f, fun e C0 he => at91 C0 _ (fun e C0 => ?_) e he, fC0_t fc3 fC0_fl, fR0_t fr3 fR0_wr, Or.inl ⟨e72_3 kc (Or.inl rfl) (fun d R0 => ?_) d0, FT_0 T3 hf, ok20_fl ok3⟩⟩
        · rw [rf e C0, r3 (e + 17) C0, cK0, pR0, h208_37]
          simp only [mr129]
          rw [if_pos wf, h208_59, r196n (e + 18) wf C0, cK9, pRv, h208_63]
          simp only [mr129]
          rw [if_pos wf, h208_82]
        · rw [cl d R0, c3 (d + 8) R0, cK0, pR0, h78_52, if_neg (fun z => z (by decide))]
    · have r0 : ¬ R2 135 (8 + (b : Int)) = 0 := by omega
      have wf := wr_f (R := R2) (k := 3) (by decide)
      refine ⟨flS C2 3, wrgS R2 3, fun e C0 he => at91 C0 _ (fun e C0 => ?_) e he, fC0_t fc2 fC0_fl, fR0_t fr2 fR0_wr, Or.inl ⟨e72_3 kc (Or.inl rfl) (fun d R0 => ?_) d0, FT_0 T2 (by decide), ok20_fl ok2⟩⟩
      · rw [n208, h208_0, r1 (e + 17) C0, cK0, pR0, h208_4]
        simp only [mr129, mr135]
        rw [if_neg (fun z => z x1), w32_idP (by omega) (by omega), if_pos i16, if_neg r0, r193 (e + 18) x1 C0, cK9, pRv]
        exact nop e C0 _ _ wf
      · rw [n78, h78_0, t1 (d + 7) R0, cK9, pRv, h78_15, c1 (d + 8) R0, cK0, pR0, h78_19, if_pos (by omega), if_pos i8]
        simp only [mc15]
        rw [if_neg told, e70 (d + 9) 3 R0, cK0, pR0, h78_40, if_pos (show ret01 78 0 = true from rfl)]
  · have wf := wr_f (R := R2) hf
    refine ⟨flS C2 f, wrgS R2 f, fun e C0 he => at91 C0 _ (fun e C0 => ?_) e he, fC0_t fc2 fC0_fl, fR0_t fr2 fR0_wr, Or.inl ⟨e72_3 kc (Or.inl rfl) (fun d R0 => ?_) d0, FT_0 T2 hf, ok20_fl ok2⟩⟩
    · rw [n208, h208_0, r1 (e + 17) C0, cK0, pR0, h208_4]
      simp only [mr129]
      rw [if_pos wf]
      exact nop e C0 _ _ wf
    · rw [n78, h78_0, t1 (d + 7) R0, cK9, pRv, h78_15, c1 (d + 8) R0, cK0, pR0, h78_19, if_neg (fun z => z (by decide))]
end S99y
